/-! Desk: update; a cue begins -/
/-- two states that are alike where slot s is looked at -/
def agS (A B : St) (s : Nat) : Prop := (∀ k, k ≠ 12 → ¬ (18 ≤ k ∧ k ≤ 21) → B k = A k) ∧ ∀ k l, 18 ≤ k → k ≤ 21 → B k l 0 s = A k l 0 s
section AGS
variable {A B : St} {l s : Nat}
theorem agS.goal (h : agS A B s) : goalV B l s = goalV A l s := by
  unfold goalV
  rw [h.1 7 (by omega) (by omega), h.1 14 (by omega) (by omega), h.1 29 (by omega) (by omega)]
theorem agS.fr (h : agS A B s) : frV B l s = frV A l s := by
  unfold frV
  rw [h.2 18 l (by omega) (by omega)]
theorem agS.pa (h : agS A B s) {t : Int32} : paV B l s t = paV A l s t := by
  unfold paV
  rw [h.2 19 l (by omega) (by omega), h.2 20 l (by omega) (by omega)]
theorem agS.fade (h : agS A B s) {t : Int32} : fadeV B l s t = fadeV A l s t := by
  unfold fadeV
  rw [h.goal, h.fr, h.pa, h.2 19 l (by omega) (by omega), h.2 20 l (by omega) (by omega), h.1 14 (by omega) (by omega), h.1 29 (by omega) (by omega)]
theorem agS.ma (h : agS A B s) : maV B l = maV A l := by
  unfold maV
  rw [h.1 16 (by omega) (by omega)]
theorem agS.put (h : agS A B s) {t : Int32} : putV B l s t = putV A l s t := by
  unfold putV
  rw [h.fade, h.ma]
theorem agS.okFd (h : agS A B s) {t : Int32} : okFd B l s t = okFd A l s t := by
  unfold Jvm.Pilot.CLampboardLaw_law_r8953_10674b.okFd
  rw [h.goal, h.fr, h.pa, h.2 19 l (by omega) (by omega), h.2 20 l (by omega) (by omega), h.1 14 (by omega) (by omega), h.1 29 (by omega) (by omega)]
theorem agS.okPut (h : agS A B s) {t : Int32} : okPut B l s t = okPut A l s t := by
  unfold Jvm.Pilot.CLampboardLaw_law_r8953_10674b.okPut
  rw [h.okFd, h.fade, h.ma]
theorem agS.okDk (h : agS A B s) : okDk B s = okDk A s := by
  unfold Jvm.Pilot.CLampboardLaw_law_r8953_10674b.okDk
  rw [h.1 14 (by omega) (by omega), h.1 29 (by omega) (by omega), h.1 9 (by omega) (by omega), h.1 11 (by omega) (by omega)]
  simp only [h.okPut]
theorem agS.ahead (h : agS A B s) {best : Int32} : aheadI B l best = aheadI A l best := by
  unfold aheadI
  rw [h.1 17 (by omega) (by omega)]
theorem agS.claim (h : agS A B s) : claimV B l s = claimV A l s := by
  unfold claimV
  rw [h.put, h.1 11 (by omega) (by omega), h.2 21 l (by omega) (by omega)]
theorem agS.decF (h : agS A B s) : ∀ (m l : Nat) (best : Int32) (c : UInt32), decF B s m l best c = decF A s m l best c := by
  intro m
  induction m with
  | zero => intro l best c; rfl
  | succ m ih =>
    intro l best c
    unfold Jvm.Pilot.CLampboardLaw_law_r8953_10674b.decF
    rw [h.ahead, h.claim, h.2 21 l (by omega) (by omega), ih, ih]
theorem agS.dec (h : agS A B s) : decI B s = decI A s := by
  unfold decI
  rw [h.decF, h.1 9 (by omega) (by omega)]
theorem agS.set (h : agS A B s) : setV B s = setV A s := by
  unfold setV
  rw [h.dec, h.put, h.1 7 (by omega) (by omega), h.1 9 (by omega) (by omega), h.1 11 (by omega) (by omega)]
end AGS
def nwI (A : St) (l c s : Nat) : Bool := decide (¬ srcI (A 29 l) (Int32.ofNat c) s = -1 ∧ (srcI (A 29 l) (Int32.ofNat c) s = Int32.ofNat c ∨ ¬ A 27 l (Int32.ofNat c).toNatClampNeg 0 = 0 ∨ ¬ srcI (A 29 l) (A 14 l 0 0) s = srcI (A 29 l) (Int32.ofNat c) s))
def fromV (A : St) (l s : Nat) : UInt32 := if A 21 l 0 s = 0 then setV A s else fadeV A l s (A 11 0 0 0)
/-- the fades of list l where cue c begins, the slots below j gone through -/
def bgA (A : St) (l c j : Nat) : St := setR (setR (setR (setR A
  18 l 0 (fun s => if s < j ∧ nwI A l c s = true then (fromV A l s).toInt32 else A 18 l 0 s))
  19 l 0 (fun s => if s < j ∧ nwI A l c s = true then A 11 0 0 0 + A 22 l c 0 else A 19 l 0 s))
  20 l 0 (fun s => if s < j ∧ nwI A l c s = true then A 23 l c 0 else A 20 l 0 s))
  21 l 0 (fun s => if s < j ∧ nwI A l c s = true then A 12 0 0 0 else if s < j ∧ srcI (A 29 l) (Int32.ofNat c) s = -1 then 0 else A 21 l 0 s)
def freshI (A : St) (l c : Nat) : Nat → Nat → Int32 → Int32
  | 0, _, a => a
  | m + 1, j, a => freshI A l c m (j + 1) (if nwI A l c j = true then a + 1 else a)
def incB (A : St) : St := up4 A 12 0 0 0 (A 12 0 0 0 + 1)
def begA (A : St) (l c : Nat) : St := up4 (up4 (bgA (incB A) l c 48) 14 l 0 0 (Int32.ofNat c)) 15 l 0 0 (A 11 0 0 0)
section BG
variable {A : St} {l c j : Nat}
theorem bg_k {k : Nat} (h : ¬ (18 ≤ k ∧ k ≤ 21)) : bgA A l c j k = A k := by
  unfold bgA
  rw [setR_nk (by omega), setR_nk (by omega), setR_nk (by omega), setR_nk (by omega)]
theorem bg_18 {s : Nat} : bgA A l c j 18 l 0 s = if s < j ∧ nwI A l c s = true then (fromV A l s).toInt32 else A 18 l 0 s := by
  unfold bgA
  rw [setR_nk (by omega), setR_nk (by omega), setR_nk (by omega), setR_row]
theorem bg_19 {s : Nat} : bgA A l c j 19 l 0 s = if s < j ∧ nwI A l c s = true then A 11 0 0 0 + A 22 l c 0 else A 19 l 0 s := by
  unfold bgA
  rw [setR_nk (by omega), setR_nk (by omega), setR_row]
theorem bg_20 {s : Nat} : bgA A l c j 20 l 0 s = if s < j ∧ nwI A l c s = true then A 23 l c 0 else A 20 l 0 s := by
  unfold bgA
  rw [setR_nk (by omega), setR_row]
theorem bg_21 {s : Nat} : bgA A l c j 21 l 0 s = if s < j ∧ nwI A l c s = true then A 12 0 0 0 else if s < j ∧ srcI (A 29 l) (Int32.ofNat c) s = -1 then 0 else A 21 l 0 s := by
  unfold bgA
  rw [setR_row]
theorem bg_o {k l1 c1 : Nat} (h : ¬ (l1 = l ∧ c1 = 0)) : bgA A l c j k l1 c1 = A k l1 c1 := by
  unfold bgA setR
  rw [if_neg (fun h2 => h h2.2), if_neg (fun h2 => h h2.2), if_neg (fun h2 => h h2.2), if_neg (fun h2 => h h2.2)]
theorem bg_ge {k l1 s : Nat} (h : j ≤ s) : bgA A l c j k l1 0 s = A k l1 0 s := by
  by_cases hl : l1 = l
  · subst hl
    by_cases h8 : k = 18
    · subst h8; rw [bg_18, if_neg (by omega)]
    · by_cases h9 : k = 19
      · subst h9; rw [bg_19, if_neg (by omega)]
      · by_cases h10 : k = 20
        · subst h10; rw [bg_20, if_neg (by omega)]
        · by_cases h11 : k = 21
          · subst h11; rw [bg_21, if_neg (by omega), if_neg (by omega)]
          · rw [bg_k (by omega)]
  · rw [bg_o (by omega)]
theorem bg_ag : agS A (bgA A l c j) j := ⟨fun k _ h => bg_k h, fun k l1 _ _ => bg_ge (Nat.le_refl _)⟩
/-- states by their rows -/
theorem st_ext {A B : St} {l : Nat} (h : ∀ k l1 c1, ¬ (18 ≤ k ∧ k ≤ 21 ∧ l1 = l ∧ c1 = 0) → A k l1 c1 = B k l1 c1) (h18 : ∀ s, A 18 l 0 s = B 18 l 0 s) (h19 : ∀ s, A 19 l 0 s = B 19 l 0 s) (h20 : ∀ s, A 20 l 0 s = B 20 l 0 s) (h21 : ∀ s, A 21 l 0 s = B 21 l 0 s) : A = B := by
  funext k l1 c1
  by_cases hc : 18 ≤ k ∧ k ≤ 21 ∧ l1 = l ∧ c1 = 0
  · obtain ⟨a1, a2, rfl, rfl⟩ := hc
    have : k = 18 ∨ k = 19 ∨ k = 20 ∨ k = 21 := by omega
    rcases this with rfl | rfl | rfl | rfl
    · exact funext h18
    · exact funext h19
    · exact funext h20
    · exact funext h21
  · exact h k l1 c1 hc
theorem bg_oth {k l1 c1 : Nat} (h : ¬ (18 ≤ k ∧ k ≤ 21 ∧ l1 = l ∧ c1 = 0)) : bgA A l c j k l1 c1 = A k l1 c1 := by
  by_cases h1 : l1 = l ∧ c1 = 0
  · rw [bg_k (by omega)]
  · rw [bg_o h1]
theorem bg_zero : bgA A l c 0 = A := st_ext (l := l) (fun k l1 c1 h => bg_oth h) (fun s => bg_ge (Nat.zero_le _)) (fun s => bg_ge (Nat.zero_le _)) (fun s => bg_ge (Nat.zero_le _)) (fun s => bg_ge (Nat.zero_le _))
theorem nw_src (h : srcI (A 29 l) (Int32.ofNat c) j = -1) : nwI A l c j = false := by
  unfold nwI
  exact decide_eq_false (fun h2 => h2.1 h)
theorem bg_none (h : srcI (A 29 l) (Int32.ofNat c) j = -1) : up4 (bgA A l c j) 21 l 0 j 0 = bgA A l c (j + 1) := by
  have hn := nw_src h
  have key : ∀ s, ¬ s = j → ((s < j + 1) = (s < j)) := fun s hs => propext (by omega)
  refine st_ext (l := l) (fun k l1 c1 h1 => ?_) (fun s => ?_) (fun s => ?_) (fun s => ?_) (fun s => ?_)
  · rw [bg_oth h1]
    funext s
    unfold up4
    rw [if_neg (by omega), bg_oth h1]
  · rw [up4_nk (by omega), bg_18, bg_18]
    by_cases hs : s = j
    · subst hs; simp [hn]
    · simp only [key s hs]
  · rw [up4_nk (by omega), bg_19, bg_19]
    by_cases hs : s = j
    · subst hs; simp [hn]
    · simp only [key s hs]
  · rw [up4_nk (by omega), bg_20, bg_20]
    by_cases hs : s = j
    · subst hs; simp [hn]
    · simp only [key s hs]
  · rw [up4_row]
    unfold upd
    rw [bg_21, bg_21]
    by_cases hs : s = j
    · subst hs; simp [hn, h]
    · simp only [key s hs, hs, if_false]
theorem bg_old (h : ¬ srcI (A 29 l) (Int32.ofNat c) j = -1) (hn : nwI A l c j = false) : bgA A l c j = bgA A l c (j + 1) := by
  have key : ∀ s, ¬ s = j → ((s < j + 1) = (s < j)) := fun s hs => propext (by omega)
  refine st_ext (l := l) (fun k l1 c1 h1 => ?_) (fun s => ?_) (fun s => ?_) (fun s => ?_) (fun s => ?_)
  · rw [bg_oth h1, bg_oth h1]
  · rw [bg_18, bg_18]
    by_cases hs : s = j
    · subst hs; simp [hn]
    · simp only [key s hs]
  · rw [bg_19, bg_19]
    by_cases hs : s = j
    · subst hs; simp [hn]
    · simp only [key s hs]
  · rw [bg_20, bg_20]
    by_cases hs : s = j
    · subst hs; simp [hn]
    · simp only [key s hs]
  · rw [bg_21, bg_21]
    by_cases hs : s = j
    · subst hs; simp [hn, h]
    · simp only [key s hs]
theorem bg_new (hn : nwI A l c j = true) : up4 (up4 (up4 (up4 (bgA A l c j) 18 l 0 j (fromV A l j).toInt32) 19 l 0 j (A 11 0 0 0 + A 22 l c 0)) 20 l 0 j (A 23 l c 0)) 21 l 0 j (A 12 0 0 0) = bgA A l c (j + 1) := by
  have key : ∀ s, ¬ s = j → ((s < j + 1) = (s < j)) := fun s hs => propext (by omega)
  refine st_ext (l := l) (fun k l1 c1 h1 => ?_) (fun s => ?_) (fun s => ?_) (fun s => ?_) (fun s => ?_)
  · rw [bg_oth h1]
    funext s
    unfold up4
    rw [if_neg (by omega), if_neg (by omega), if_neg (by omega), if_neg (by omega), bg_oth h1]
  · rw [up4_nk (by omega), up4_nk (by omega), up4_nk (by omega), up4_row]
    unfold upd
    rw [bg_18, bg_18]
    by_cases hs : s = j
    · subst hs; simp [hn]
    · simp only [key s hs, hs, if_false]
  · rw [up4_nk (by omega), up4_nk (by omega), up4_row, up4_nk (by omega)]
    unfold upd
    rw [bg_19, bg_19]
    by_cases hs : s = j
    · subst hs; simp [hn]
    · simp only [key s hs, hs, if_false]
  · rw [up4_nk (by omega), up4_row, up4_nk (by omega), up4_nk (by omega)]
    unfold upd
    rw [bg_20, bg_20]
    by_cases hs : s = j
    · subst hs; simp [hn]
    · simp only [key s hs, hs, if_false]
  · rw [up4_row, up4_nk (by omega), up4_nk (by omega), up4_nk (by omega)]
    unfold upd
    rw [bg_21, bg_21]
    by_cases hs : s = j
    · subst hs; simp [hn]
    · simp only [key s hs, hs, if_false]
end BG
section DESK
variable {z : Ev} {S : Nat → St} {M : St} {b l s : Nat} {Q : Out → Hp → Prop} {bc bs : Nat}
theorem bg_loop {A : St} {c : Nat} (hb : isB b) (hl : l < 3) (hc : c < 12) (hk : ∀ s, s < 48 → okDk A s) (ini : Int32) : ∀ (m j : Nat) (a : Int32) (v : Value) (S : Nat → St), j + m = 48 → S b = bgA A l c j →
    ∃ w, (Go kX2_begin 23 [.ref b, .int ini, .int (Int32.ofNat c), .ref (aL b l), .int a, .int (Int32.ofNat j), v] [] bc bs (H z S M) Q ↔ Go kX2_begin 122 [.ref b, .int ini, .int (Int32.ofNat c), .ref (aL b l), .int (freshI A l c m j a), .int (Int32.ofNat 48), w] [] bc bs (H z (va_up S b (bgA A l c 48)) M) Q) := by
  intro m
  induction m with
  | zero =>
    intro j a v S hj hS
    obtain rfl : j = 48 := by omega
    refine ⟨v, ?_⟩
    rw [← hS, up_self, sX2_begin_23]
    unfold freshI
    simp (disch := first | assumption | exact cat_int | exact cat_ref | exact cat_float | exact cat_null | exact isB_2 | exact isB_154 | omega) only [eX2_begin, sX2_begin_0, sX2_begin_1, sX2_begin_4, sX2_begin_5, sX2_begin_6, sX2_begin_7, sX2_begin_8, sX2_begin_9, sX2_begin_12, sX2_begin_13, sX2_begin_14, sX2_begin_17, sX2_begin_18, sX2_begin_20, sX2_begin_21, sX2_begin_25, sX2_begin_27, sX2_begin_30, sX2_begin_31, sX2_begin_32, sX2_begin_34, sX2_begin_37, sX2_begin_38, sX2_begin_41, sX2_begin_42, sX2_begin_45, sX2_begin_47, sX2_begin_48, sX2_begin_49, sX2_begin_52, sX2_begin_53, sX2_begin_54, sX2_begin_56, sX2_begin_59, sX2_begin_62, sX2_begin_63, sX2_begin_65, sX2_begin_68, sX2_begin_71, sX2_begin_72, sX2_begin_74, sX2_begin_75, sX2_begin_78, sX2_begin_79, sX2_begin_82, sX2_begin_85, sX2_begin_88, sX2_begin_89, sX2_begin_91, sX2_begin_94, sX2_begin_96, sX2_begin_97, sX2_begin_99, sX2_begin_100, sX2_begin_102, sX2_begin_103, sX2_begin_106, sX2_begin_107, sX2_begin_110, sX2_begin_113, sX2_begin_116, sX2_begin_119, sX2_begin_123, sX2_begin_124, sX2_begin_127, sX2_begin_128, sX2_begin_129, sX2_begin_132, sX2_begin_135, sX2_begin_137, nT_le, nF_le, nT_lt, nF_lt, nT_eq, nF_eq, n_succ, n_add, n_neg, n_lt0, n_pred, n0_le, n0_leF, nle_0, nle_0F, n0_lt, n0_ltF, nlt_0, nlt_0F, neq_0, neq_0F, n1_le, n1_leF, nle_1, nle_1F, n1_lt, n1_ltF, nlt_1, nlt_1F, neq_1, neq_1F, n2_le, n2_leF, nle_2, nle_2F, n2_lt, n2_ltF, nlt_2, nlt_2F, neq_2, neq_2F, n3_le, n3_leF, nle_3, nle_3F, n3_lt, n3_ltF, nlt_3, nlt_3F, neq_3, neq_3F, n4_le, n4_leF, nle_4, nle_4F, n4_lt, n4_ltF, nlt_4, nlt_4F, neq_4, neq_4F, n5_le, n5_leF, nle_5, nle_5F, n5_lt, n5_ltF, nlt_5, nlt_5F, neq_5, neq_5F, n6_le, n6_leF, nle_6, nle_6F, n6_lt, n6_ltF, nlt_6, nlt_6F, neq_6, neq_6F, n7_le, n7_leF, nle_7, nle_7F, n7_lt, n7_ltF, nlt_7, nlt_7F, neq_7, neq_7F, n8_le, n8_leF, nle_8, nle_8F, n8_lt, n8_ltF, nlt_8, nlt_8F, neq_8, neq_8F, n9_le, n9_leF, nle_9, nle_9F, n9_lt, n9_ltF, nlt_9, nlt_9F, neq_9, neq_9F, n10_le, n10_leF, nle_10, nle_10F, n10_lt, n10_ltF, nlt_10, nlt_10F, neq_10, neq_10F, n11_le, n11_leF, nle_11, nle_11F, n11_lt, n11_ltF, nlt_11, nlt_11F, neq_11, neq_11F, n12_le, n12_leF, nle_12, nle_12F, n12_lt, n12_ltF, nlt_12, nlt_12F, neq_12, neq_12F, n19_le, n19_leF, nle_19, nle_19F, n19_lt, n19_ltF, nlt_19, nlt_19F, neq_19, neq_19F, n20_le, n20_leF, nle_20, nle_20F, n20_lt, n20_ltF, nlt_20, nlt_20F, neq_20, neq_20F, n30_le, n30_leF, nle_30, nle_30F, n30_lt, n30_ltF, nlt_30, nlt_30F, neq_30, neq_30F, n36_le, n36_leF, nle_36, nle_36F, n36_lt, n36_ltF, nlt_36, nlt_36F, neq_36, neq_36F, n48_le, n48_leF, nle_48, nle_48F, n48_lt, n48_ltF, nlt_48, nlt_48F, neq_48, neq_48F, n60_le, n60_leF, nle_60, nle_60F, n60_lt, n60_ltF, nlt_60, nlt_60F, neq_60, neq_60F, n63_le, n63_leF, nle_63, nle_63F, n63_lt, n63_ltF, nlt_63, nlt_63F, neq_63, neq_63F, n64_le, n64_leF, nle_64, nle_64F, n64_lt, n64_ltF, nlt_64, nlt_64F, neq_64, neq_64F, n72_le, n72_leF, nle_72, nle_72F, n72_lt, n72_ltF, nlt_72, nlt_72F, neq_72, neq_72F, n100_le, n100_leF, nle_100, nle_100F, n100_lt, n100_ltF, nlt_100, nlt_100F, neq_100, neq_100F, n144_le, n144_leF, nle_144, nle_144F, n144_lt, n144_ltF, nlt_144, nlt_144F, neq_144, neq_144F, n255_le, n255_leF, nle_255, nle_255F, n255_lt, n255_ltF, nlt_255, nlt_255F, neq_255, neq_255F, n256_le, n256_leF, nle_256, nle_256F, n256_lt, n256_ltF, nlt_256, nlt_256F, neq_256, neq_256F, n999_le, n999_leF, nle_999, nle_999F, n999_lt, n999_ltF, nlt_999, nlt_999F, neq_999, neq_999F, n1000_le, n1000_leF, nle_1000, nle_1000F, n1000_lt, n1000_ltF, nlt_1000, nlt_1000F, neq_1000, neq_1000F, n1728_le, n1728_leF, nle_1728, nle_1728F, n1728_lt, n1728_ltF, nlt_1728, nlt_1728F, neq_1728, neq_1728F, n5000_le, n5000_leF, nle_5000, nle_5000F, n5000_lt, n5000_ltF, nlt_5000, nlt_5000F, neq_5000, neq_5000F, n4_mul, n4_mulr, n12_mul, n48_mul, n_mod4, n_div4, n_mod4b, false_implies, true_implies, forall_const, not_true_eq_false, not_false_eq_true, true_and, and_true, implies_true, Aft_some, Aft_none, Aft_thr]
  | succ m ih =>
    intro j a v S hj hS
    have h10 : ¬ (1 : Int32) = 0 := by decide
    have hj48 : j < 48 := by omega
    have hag : agS A (S b) j := by rw [hS]; exact bg_ag
    have h14 : S b 14 = A 14 := hag.1 14 (by omega) (by omega)
    have h29 : S b 29 = A 29 := hag.1 29 (by omega) (by omega)
    have h27 : S b 27 = A 27 := hag.1 27 (by omega) (by omega)
    have h22 : S b 22 = A 22 := hag.1 22 (by omega) (by omega)
    have h23 : S b 23 = A 23 := hag.1 23 (by omega) (by omega)
    have h11 : S b 11 = A 11 := hag.1 11 (by omega) (by omega)
    have h12 : S b 12 = A 12 := by rw [hS, bg_k (by omega)]
    have h21 : S b 21 l 0 j = A 21 l 0 j := hag.2 21 l (by omega) (by omega)
    have hcp : okP (Int32.ofNat c) := okP_n hc
    have hdk : okDk (S b) j := by rw [hag.okDk]; exact hk j hj48
    have hp : okP (S b 14 l 0 0) := hdk.1 l hl
    have hr : ∀ c, c < 12 → okRow (S b 29 l c) := hdk.2.1 l hl
    have hpt : okFd (S b) l j (S b 11 0 0 0) := (hdk.2.2.2 l hl).1
    have esrc : Call kX1_sourceOf [.ref (aL b l), .int (Int32.ofNat c), .int (Int32.ofNat j)] (H z S M) = fun Q => Q (.inl (some (.int (srcI (A 29 l) (Int32.ofNat c) j)))) (H z S M) := by
      funext Q
      rw [← h29]
      exact propext (sourceOf_c hb hl hj48 hcp)
    by_cases h1 : srcI (A 29 l) (Int32.ofNat c) j = -1
    · have hn := nw_src h1
      obtain ⟨w, hi⟩ := ih (j + 1) a v (va_up S b (bgA A l c (j + 1))) (by omega) up_at
      refine ⟨w, ?_⟩
      rw [up_up] at hi
      unfold freshI
      simp only [hn, Bool.false_eq_true, if_false]
      rw [← hi, sX2_begin_23, ← bg_none h1, ← hS]
      simp (disch := first | assumption | exact cat_int | exact cat_ref | exact cat_float | exact cat_null | exact isB_2 | exact isB_154 | omega) only [eX2_begin, sX2_begin_0, sX2_begin_1, sX2_begin_4, sX2_begin_5, sX2_begin_6, sX2_begin_7, sX2_begin_8, sX2_begin_9, sX2_begin_12, sX2_begin_13, sX2_begin_14, sX2_begin_17, sX2_begin_18, sX2_begin_20, sX2_begin_21, sX2_begin_25, sX2_begin_27, sX2_begin_30, sX2_begin_31, sX2_begin_32, sX2_begin_34, sX2_begin_37, sX2_begin_38, sX2_begin_41, sX2_begin_42, sX2_begin_45, sX2_begin_47, sX2_begin_48, sX2_begin_49, sX2_begin_52, sX2_begin_53, sX2_begin_54, sX2_begin_56, sX2_begin_59, sX2_begin_62, sX2_begin_63, sX2_begin_65, sX2_begin_68, sX2_begin_71, sX2_begin_72, sX2_begin_74, sX2_begin_75, sX2_begin_78, sX2_begin_79, sX2_begin_82, sX2_begin_85, sX2_begin_88, sX2_begin_89, sX2_begin_91, sX2_begin_94, sX2_begin_96, sX2_begin_97, sX2_begin_99, sX2_begin_100, sX2_begin_102, sX2_begin_103, sX2_begin_106, sX2_begin_107, sX2_begin_110, sX2_begin_113, sX2_begin_116, sX2_begin_119, sX2_begin_123, sX2_begin_124, sX2_begin_127, sX2_begin_128, sX2_begin_129, sX2_begin_132, sX2_begin_135, sX2_begin_137, rc_L, esrc, h1, rd_L_9, wr_Or, nT_le, nF_le, nT_lt, nF_lt, nT_eq, nF_eq, n_succ, n_add, n_neg, n_lt0, n_pred, n0_le, n0_leF, nle_0, nle_0F, n0_lt, n0_ltF, nlt_0, nlt_0F, neq_0, neq_0F, n1_le, n1_leF, nle_1, nle_1F, n1_lt, n1_ltF, nlt_1, nlt_1F, neq_1, neq_1F, n2_le, n2_leF, nle_2, nle_2F, n2_lt, n2_ltF, nlt_2, nlt_2F, neq_2, neq_2F, n3_le, n3_leF, nle_3, nle_3F, n3_lt, n3_ltF, nlt_3, nlt_3F, neq_3, neq_3F, n4_le, n4_leF, nle_4, nle_4F, n4_lt, n4_ltF, nlt_4, nlt_4F, neq_4, neq_4F, n5_le, n5_leF, nle_5, nle_5F, n5_lt, n5_ltF, nlt_5, nlt_5F, neq_5, neq_5F, n6_le, n6_leF, nle_6, nle_6F, n6_lt, n6_ltF, nlt_6, nlt_6F, neq_6, neq_6F, n7_le, n7_leF, nle_7, nle_7F, n7_lt, n7_ltF, nlt_7, nlt_7F, neq_7, neq_7F, n8_le, n8_leF, nle_8, nle_8F, n8_lt, n8_ltF, nlt_8, nlt_8F, neq_8, neq_8F, n9_le, n9_leF, nle_9, nle_9F, n9_lt, n9_ltF, nlt_9, nlt_9F, neq_9, neq_9F, n10_le, n10_leF, nle_10, nle_10F, n10_lt, n10_ltF, nlt_10, nlt_10F, neq_10, neq_10F, n11_le, n11_leF, nle_11, nle_11F, n11_lt, n11_ltF, nlt_11, nlt_11F, neq_11, neq_11F, n12_le, n12_leF, nle_12, nle_12F, n12_lt, n12_ltF, nlt_12, nlt_12F, neq_12, neq_12F, n19_le, n19_leF, nle_19, nle_19F, n19_lt, n19_ltF, nlt_19, nlt_19F, neq_19, neq_19F, n20_le, n20_leF, nle_20, nle_20F, n20_lt, n20_ltF, nlt_20, nlt_20F, neq_20, neq_20F, n30_le, n30_leF, nle_30, nle_30F, n30_lt, n30_ltF, nlt_30, nlt_30F, neq_30, neq_30F, n36_le, n36_leF, nle_36, nle_36F, n36_lt, n36_ltF, nlt_36, nlt_36F, neq_36, neq_36F, n48_le, n48_leF, nle_48, nle_48F, n48_lt, n48_ltF, nlt_48, nlt_48F, neq_48, neq_48F, n60_le, n60_leF, nle_60, nle_60F, n60_lt, n60_ltF, nlt_60, nlt_60F, neq_60, neq_60F, n63_le, n63_leF, nle_63, nle_63F, n63_lt, n63_ltF, nlt_63, nlt_63F, neq_63, neq_63F, n64_le, n64_leF, nle_64, nle_64F, n64_lt, n64_ltF, nlt_64, nlt_64F, neq_64, neq_64F, n72_le, n72_leF, nle_72, nle_72F, n72_lt, n72_ltF, nlt_72, nlt_72F, neq_72, neq_72F, n100_le, n100_leF, nle_100, nle_100F, n100_lt, n100_ltF, nlt_100, nlt_100F, neq_100, neq_100F, n144_le, n144_leF, nle_144, nle_144F, n144_lt, n144_ltF, nlt_144, nlt_144F, neq_144, neq_144F, n255_le, n255_leF, nle_255, nle_255F, n255_lt, n255_ltF, nlt_255, nlt_255F, neq_255, neq_255F, n256_le, n256_leF, nle_256, nle_256F, n256_lt, n256_ltF, nlt_256, nlt_256F, neq_256, neq_256F, n999_le, n999_leF, nle_999, nle_999F, n999_lt, n999_ltF, nlt_999, nlt_999F, neq_999, neq_999F, n1000_le, n1000_leF, nle_1000, nle_1000F, n1000_lt, n1000_ltF, nlt_1000, nlt_1000F, neq_1000, neq_1000F, n1728_le, n1728_leF, nle_1728, nle_1728F, n1728_lt, n1728_ltF, nlt_1728, nlt_1728F, neq_1728, neq_1728F, n5000_le, n5000_leF, nle_5000, nle_5000F, n5000_lt, n5000_ltF, nlt_5000, nlt_5000F, neq_5000, neq_5000F, n4_mul, n4_mulr, n12_mul, n48_mul, n_mod4, n_div4, n_mod4b, false_implies, true_implies, forall_const, not_true_eq_false, not_false_eq_true, true_and, and_true, implies_true, Aft_some, Aft_none, Aft_thr, nsum_nil, nsum_int, nsum_ref, nsum_float, nsum_long, nsum_double, Nat.reduceAdd, Nat.reduceLeDiff, true_and, and_true, and_self, Nat.le_refl, Nat.zero_le]
    · have hnf : isNewF (S b) l (Int32.ofNat c) j = isNewF A l (Int32.ofNat c) j := by
        unfold isNewF
        rw [h29, h27, h14]
      by_cases h2 : isNewF A l (Int32.ofNat c) j
      · have hn : nwI A l c j = true := decide_eq_true ⟨h1, h2⟩
        have h3 := (needsNewFade_c (z := z) (S := S) (M := M) (Q := Aft kX2_begin 59 [.ref b, .int ini, .int (Int32.ofNat c), .ref (aL b l), .int a, .int (Int32.ofNat j), v] [] bc bs Q) hb hl hj48 hc hp).1 (by rw [hnf]; exact h2)
        by_cases h4 : A 21 l 0 j = 0
        · have hfr : fromV A l j = setV (S b) j := by unfold fromV; rw [if_pos h4, hag.set]
          obtain ⟨w, hi⟩ := ih (j + 1) (a + 1) (.float (fromV A l j)) (va_up S b (bgA A l c (j + 1))) (by omega) up_at
          refine ⟨w, ?_⟩
          rw [up_up] at hi
          unfold freshI
          simp only [hn, if_true]
          rw [← hi, sX2_begin_23, ← bg_new hn, ← hS, hfr]
          simp (disch := first | assumption | exact cat_int | exact cat_ref | exact cat_float | exact cat_null | exact isB_2 | exact isB_154 | omega) only [eX2_begin, sX2_begin_0, sX2_begin_1, sX2_begin_4, sX2_begin_5, sX2_begin_6, sX2_begin_7, sX2_begin_8, sX2_begin_9, sX2_begin_12, sX2_begin_13, sX2_begin_14, sX2_begin_17, sX2_begin_18, sX2_begin_20, sX2_begin_21, sX2_begin_25, sX2_begin_27, sX2_begin_30, sX2_begin_31, sX2_begin_32, sX2_begin_34, sX2_begin_37, sX2_begin_38, sX2_begin_41, sX2_begin_42, sX2_begin_45, sX2_begin_47, sX2_begin_48, sX2_begin_49, sX2_begin_52, sX2_begin_53, sX2_begin_54, sX2_begin_56, sX2_begin_59, sX2_begin_62, sX2_begin_63, sX2_begin_65, sX2_begin_68, sX2_begin_71, sX2_begin_72, sX2_begin_74, sX2_begin_75, sX2_begin_78, sX2_begin_79, sX2_begin_82, sX2_begin_85, sX2_begin_88, sX2_begin_89, sX2_begin_91, sX2_begin_94, sX2_begin_96, sX2_begin_97, sX2_begin_99, sX2_begin_100, sX2_begin_102, sX2_begin_103, sX2_begin_106, sX2_begin_107, sX2_begin_110, sX2_begin_113, sX2_begin_116, sX2_begin_119, sX2_begin_123, sX2_begin_124, sX2_begin_127, sX2_begin_128, sX2_begin_129, sX2_begin_132, sX2_begin_135, sX2_begin_137, rc_L, rc_D, esrc, h1, h3, h10, hasFade_c, settled_c, startFade_c, rd_D_9, rd_D_10, h21, h4, h11, h12, h22, h23, if_true, nT_le, nF_le, nT_lt, nF_lt, nT_eq, nF_eq, n_succ, n_add, n_neg, n_lt0, n_pred, n0_le, n0_leF, nle_0, nle_0F, n0_lt, n0_ltF, nlt_0, nlt_0F, neq_0, neq_0F, n1_le, n1_leF, nle_1, nle_1F, n1_lt, n1_ltF, nlt_1, nlt_1F, neq_1, neq_1F, n2_le, n2_leF, nle_2, nle_2F, n2_lt, n2_ltF, nlt_2, nlt_2F, neq_2, neq_2F, n3_le, n3_leF, nle_3, nle_3F, n3_lt, n3_ltF, nlt_3, nlt_3F, neq_3, neq_3F, n4_le, n4_leF, nle_4, nle_4F, n4_lt, n4_ltF, nlt_4, nlt_4F, neq_4, neq_4F, n5_le, n5_leF, nle_5, nle_5F, n5_lt, n5_ltF, nlt_5, nlt_5F, neq_5, neq_5F, n6_le, n6_leF, nle_6, nle_6F, n6_lt, n6_ltF, nlt_6, nlt_6F, neq_6, neq_6F, n7_le, n7_leF, nle_7, nle_7F, n7_lt, n7_ltF, nlt_7, nlt_7F, neq_7, neq_7F, n8_le, n8_leF, nle_8, nle_8F, n8_lt, n8_ltF, nlt_8, nlt_8F, neq_8, neq_8F, n9_le, n9_leF, nle_9, nle_9F, n9_lt, n9_ltF, nlt_9, nlt_9F, neq_9, neq_9F, n10_le, n10_leF, nle_10, nle_10F, n10_lt, n10_ltF, nlt_10, nlt_10F, neq_10, neq_10F, n11_le, n11_leF, nle_11, nle_11F, n11_lt, n11_ltF, nlt_11, nlt_11F, neq_11, neq_11F, n12_le, n12_leF, nle_12, nle_12F, n12_lt, n12_ltF, nlt_12, nlt_12F, neq_12, neq_12F, n19_le, n19_leF, nle_19, nle_19F, n19_lt, n19_ltF, nlt_19, nlt_19F, neq_19, neq_19F, n20_le, n20_leF, nle_20, nle_20F, n20_lt, n20_ltF, nlt_20, nlt_20F, neq_20, neq_20F, n30_le, n30_leF, nle_30, nle_30F, n30_lt, n30_ltF, nlt_30, nlt_30F, neq_30, neq_30F, n36_le, n36_leF, nle_36, nle_36F, n36_lt, n36_ltF, nlt_36, nlt_36F, neq_36, neq_36F, n48_le, n48_leF, nle_48, nle_48F, n48_lt, n48_ltF, nlt_48, nlt_48F, neq_48, neq_48F, n60_le, n60_leF, nle_60, nle_60F, n60_lt, n60_ltF, nlt_60, nlt_60F, neq_60, neq_60F, n63_le, n63_leF, nle_63, nle_63F, n63_lt, n63_ltF, nlt_63, nlt_63F, neq_63, neq_63F, n64_le, n64_leF, nle_64, nle_64F, n64_lt, n64_ltF, nlt_64, nlt_64F, neq_64, neq_64F, n72_le, n72_leF, nle_72, nle_72F, n72_lt, n72_ltF, nlt_72, nlt_72F, neq_72, neq_72F, n100_le, n100_leF, nle_100, nle_100F, n100_lt, n100_ltF, nlt_100, nlt_100F, neq_100, neq_100F, n144_le, n144_leF, nle_144, nle_144F, n144_lt, n144_ltF, nlt_144, nlt_144F, neq_144, neq_144F, n255_le, n255_leF, nle_255, nle_255F, n255_lt, n255_ltF, nlt_255, nlt_255F, neq_255, neq_255F, n256_le, n256_leF, nle_256, nle_256F, n256_lt, n256_ltF, nlt_256, nlt_256F, neq_256, neq_256F, n999_le, n999_leF, nle_999, nle_999F, n999_lt, n999_ltF, nlt_999, nlt_999F, neq_999, neq_999F, n1000_le, n1000_leF, nle_1000, nle_1000F, n1000_lt, n1000_ltF, nlt_1000, nlt_1000F, neq_1000, neq_1000F, n1728_le, n1728_leF, nle_1728, nle_1728F, n1728_lt, n1728_ltF, nlt_1728, nlt_1728F, neq_1728, neq_1728F, n5000_le, n5000_leF, nle_5000, nle_5000F, n5000_lt, n5000_ltF, nlt_5000, nlt_5000F, neq_5000, neq_5000F, n4_mul, n4_mulr, n12_mul, n48_mul, n_mod4, n_div4, n_mod4b, false_implies, true_implies, forall_const, not_true_eq_false, not_false_eq_true, true_and, and_true, implies_true, Aft_some, Aft_none, Aft_thr, nsum_nil, nsum_int, nsum_ref, nsum_float, nsum_long, nsum_double, Nat.reduceAdd, Nat.reduceLeDiff, true_and, and_true, and_self, Nat.le_refl, Nat.zero_le]
        · have hfr : fromV A l j = fadeV (S b) l j (A 11 0 0 0) := by unfold fromV; rw [if_neg h4, hag.fade]
          rw [h11] at hpt
          obtain ⟨w, hi⟩ := ih (j + 1) (a + 1) (.float (fromV A l j)) (va_up S b (bgA A l c (j + 1))) (by omega) up_at
          refine ⟨w, ?_⟩
          rw [up_up] at hi
          unfold freshI
          simp only [hn, if_true]
          rw [← hi, sX2_begin_23, ← bg_new hn, ← hS, hfr]
          simp (disch := first | assumption | exact cat_int | exact cat_ref | exact cat_float | exact cat_null | exact isB_2 | exact isB_154 | omega) only [eX2_begin, sX2_begin_0, sX2_begin_1, sX2_begin_4, sX2_begin_5, sX2_begin_6, sX2_begin_7, sX2_begin_8, sX2_begin_9, sX2_begin_12, sX2_begin_13, sX2_begin_14, sX2_begin_17, sX2_begin_18, sX2_begin_20, sX2_begin_21, sX2_begin_25, sX2_begin_27, sX2_begin_30, sX2_begin_31, sX2_begin_32, sX2_begin_34, sX2_begin_37, sX2_begin_38, sX2_begin_41, sX2_begin_42, sX2_begin_45, sX2_begin_47, sX2_begin_48, sX2_begin_49, sX2_begin_52, sX2_begin_53, sX2_begin_54, sX2_begin_56, sX2_begin_59, sX2_begin_62, sX2_begin_63, sX2_begin_65, sX2_begin_68, sX2_begin_71, sX2_begin_72, sX2_begin_74, sX2_begin_75, sX2_begin_78, sX2_begin_79, sX2_begin_82, sX2_begin_85, sX2_begin_88, sX2_begin_89, sX2_begin_91, sX2_begin_94, sX2_begin_96, sX2_begin_97, sX2_begin_99, sX2_begin_100, sX2_begin_102, sX2_begin_103, sX2_begin_106, sX2_begin_107, sX2_begin_110, sX2_begin_113, sX2_begin_116, sX2_begin_119, sX2_begin_123, sX2_begin_124, sX2_begin_127, sX2_begin_128, sX2_begin_129, sX2_begin_132, sX2_begin_135, sX2_begin_137, rc_L, rc_D, esrc, h1, h3, h10, hasFade_c, fadeValue_c, startFade_c, rd_D_9, rd_D_10, rd_D_4, h21, h4, h11, h12, h22, h23, if_false, nT_le, nF_le, nT_lt, nF_lt, nT_eq, nF_eq, n_succ, n_add, n_neg, n_lt0, n_pred, n0_le, n0_leF, nle_0, nle_0F, n0_lt, n0_ltF, nlt_0, nlt_0F, neq_0, neq_0F, n1_le, n1_leF, nle_1, nle_1F, n1_lt, n1_ltF, nlt_1, nlt_1F, neq_1, neq_1F, n2_le, n2_leF, nle_2, nle_2F, n2_lt, n2_ltF, nlt_2, nlt_2F, neq_2, neq_2F, n3_le, n3_leF, nle_3, nle_3F, n3_lt, n3_ltF, nlt_3, nlt_3F, neq_3, neq_3F, n4_le, n4_leF, nle_4, nle_4F, n4_lt, n4_ltF, nlt_4, nlt_4F, neq_4, neq_4F, n5_le, n5_leF, nle_5, nle_5F, n5_lt, n5_ltF, nlt_5, nlt_5F, neq_5, neq_5F, n6_le, n6_leF, nle_6, nle_6F, n6_lt, n6_ltF, nlt_6, nlt_6F, neq_6, neq_6F, n7_le, n7_leF, nle_7, nle_7F, n7_lt, n7_ltF, nlt_7, nlt_7F, neq_7, neq_7F, n8_le, n8_leF, nle_8, nle_8F, n8_lt, n8_ltF, nlt_8, nlt_8F, neq_8, neq_8F, n9_le, n9_leF, nle_9, nle_9F, n9_lt, n9_ltF, nlt_9, nlt_9F, neq_9, neq_9F, n10_le, n10_leF, nle_10, nle_10F, n10_lt, n10_ltF, nlt_10, nlt_10F, neq_10, neq_10F, n11_le, n11_leF, nle_11, nle_11F, n11_lt, n11_ltF, nlt_11, nlt_11F, neq_11, neq_11F, n12_le, n12_leF, nle_12, nle_12F, n12_lt, n12_ltF, nlt_12, nlt_12F, neq_12, neq_12F, n19_le, n19_leF, nle_19, nle_19F, n19_lt, n19_ltF, nlt_19, nlt_19F, neq_19, neq_19F, n20_le, n20_leF, nle_20, nle_20F, n20_lt, n20_ltF, nlt_20, nlt_20F, neq_20, neq_20F, n30_le, n30_leF, nle_30, nle_30F, n30_lt, n30_ltF, nlt_30, nlt_30F, neq_30, neq_30F, n36_le, n36_leF, nle_36, nle_36F, n36_lt, n36_ltF, nlt_36, nlt_36F, neq_36, neq_36F, n48_le, n48_leF, nle_48, nle_48F, n48_lt, n48_ltF, nlt_48, nlt_48F, neq_48, neq_48F, n60_le, n60_leF, nle_60, nle_60F, n60_lt, n60_ltF, nlt_60, nlt_60F, neq_60, neq_60F, n63_le, n63_leF, nle_63, nle_63F, n63_lt, n63_ltF, nlt_63, nlt_63F, neq_63, neq_63F, n64_le, n64_leF, nle_64, nle_64F, n64_lt, n64_ltF, nlt_64, nlt_64F, neq_64, neq_64F, n72_le, n72_leF, nle_72, nle_72F, n72_lt, n72_ltF, nlt_72, nlt_72F, neq_72, neq_72F, n100_le, n100_leF, nle_100, nle_100F, n100_lt, n100_ltF, nlt_100, nlt_100F, neq_100, neq_100F, n144_le, n144_leF, nle_144, nle_144F, n144_lt, n144_ltF, nlt_144, nlt_144F, neq_144, neq_144F, n255_le, n255_leF, nle_255, nle_255F, n255_lt, n255_ltF, nlt_255, nlt_255F, neq_255, neq_255F, n256_le, n256_leF, nle_256, nle_256F, n256_lt, n256_ltF, nlt_256, nlt_256F, neq_256, neq_256F, n999_le, n999_leF, nle_999, nle_999F, n999_lt, n999_ltF, nlt_999, nlt_999F, neq_999, neq_999F, n1000_le, n1000_leF, nle_1000, nle_1000F, n1000_lt, n1000_ltF, nlt_1000, nlt_1000F, neq_1000, neq_1000F, n1728_le, n1728_leF, nle_1728, nle_1728F, n1728_lt, n1728_ltF, nlt_1728, nlt_1728F, neq_1728, neq_1728F, n5000_le, n5000_leF, nle_5000, nle_5000F, n5000_lt, n5000_ltF, nlt_5000, nlt_5000F, neq_5000, neq_5000F, n4_mul, n4_mulr, n12_mul, n48_mul, n_mod4, n_div4, n_mod4b, false_implies, true_implies, forall_const, not_true_eq_false, not_false_eq_true, true_and, and_true, implies_true, Aft_some, Aft_none, Aft_thr, nsum_nil, nsum_int, nsum_ref, nsum_float, nsum_long, nsum_double, Nat.reduceAdd, Nat.reduceLeDiff, true_and, and_true, and_self, Nat.le_refl, Nat.zero_le]
      · have hn : nwI A l c j = false := decide_eq_false (fun h9 => h2 h9.2)
        have h3 := (needsNewFade_c (z := z) (S := S) (M := M) (Q := Aft kX2_begin 59 [.ref b, .int ini, .int (Int32.ofNat c), .ref (aL b l), .int a, .int (Int32.ofNat j), v] [] bc bs Q) hb hl hj48 hc hp).2 (by rw [hnf]; exact h2)
        obtain ⟨w, hi⟩ := ih (j + 1) a v S (by omega) (hS.trans (bg_old h1 hn))
        refine ⟨w, ?_⟩
        unfold freshI
        simp only [hn, Bool.false_eq_true, if_false]
        rw [← hi, sX2_begin_23]
        simp (disch := first | assumption | exact cat_int | exact cat_ref | exact cat_float | exact cat_null | exact isB_2 | exact isB_154 | omega) only [eX2_begin, sX2_begin_0, sX2_begin_1, sX2_begin_4, sX2_begin_5, sX2_begin_6, sX2_begin_7, sX2_begin_8, sX2_begin_9, sX2_begin_12, sX2_begin_13, sX2_begin_14, sX2_begin_17, sX2_begin_18, sX2_begin_20, sX2_begin_21, sX2_begin_25, sX2_begin_27, sX2_begin_30, sX2_begin_31, sX2_begin_32, sX2_begin_34, sX2_begin_37, sX2_begin_38, sX2_begin_41, sX2_begin_42, sX2_begin_45, sX2_begin_47, sX2_begin_48, sX2_begin_49, sX2_begin_52, sX2_begin_53, sX2_begin_54, sX2_begin_56, sX2_begin_59, sX2_begin_62, sX2_begin_63, sX2_begin_65, sX2_begin_68, sX2_begin_71, sX2_begin_72, sX2_begin_74, sX2_begin_75, sX2_begin_78, sX2_begin_79, sX2_begin_82, sX2_begin_85, sX2_begin_88, sX2_begin_89, sX2_begin_91, sX2_begin_94, sX2_begin_96, sX2_begin_97, sX2_begin_99, sX2_begin_100, sX2_begin_102, sX2_begin_103, sX2_begin_106, sX2_begin_107, sX2_begin_110, sX2_begin_113, sX2_begin_116, sX2_begin_119, sX2_begin_123, sX2_begin_124, sX2_begin_127, sX2_begin_128, sX2_begin_129, sX2_begin_132, sX2_begin_135, sX2_begin_137, rc_L, esrc, h1, h3, nT_le, nF_le, nT_lt, nF_lt, nT_eq, nF_eq, n_succ, n_add, n_neg, n_lt0, n_pred, n0_le, n0_leF, nle_0, nle_0F, n0_lt, n0_ltF, nlt_0, nlt_0F, neq_0, neq_0F, n1_le, n1_leF, nle_1, nle_1F, n1_lt, n1_ltF, nlt_1, nlt_1F, neq_1, neq_1F, n2_le, n2_leF, nle_2, nle_2F, n2_lt, n2_ltF, nlt_2, nlt_2F, neq_2, neq_2F, n3_le, n3_leF, nle_3, nle_3F, n3_lt, n3_ltF, nlt_3, nlt_3F, neq_3, neq_3F, n4_le, n4_leF, nle_4, nle_4F, n4_lt, n4_ltF, nlt_4, nlt_4F, neq_4, neq_4F, n5_le, n5_leF, nle_5, nle_5F, n5_lt, n5_ltF, nlt_5, nlt_5F, neq_5, neq_5F, n6_le, n6_leF, nle_6, nle_6F, n6_lt, n6_ltF, nlt_6, nlt_6F, neq_6, neq_6F, n7_le, n7_leF, nle_7, nle_7F, n7_lt, n7_ltF, nlt_7, nlt_7F, neq_7, neq_7F, n8_le, n8_leF, nle_8, nle_8F, n8_lt, n8_ltF, nlt_8, nlt_8F, neq_8, neq_8F, n9_le, n9_leF, nle_9, nle_9F, n9_lt, n9_ltF, nlt_9, nlt_9F, neq_9, neq_9F, n10_le, n10_leF, nle_10, nle_10F, n10_lt, n10_ltF, nlt_10, nlt_10F, neq_10, neq_10F, n11_le, n11_leF, nle_11, nle_11F, n11_lt, n11_ltF, nlt_11, nlt_11F, neq_11, neq_11F, n12_le, n12_leF, nle_12, nle_12F, n12_lt, n12_ltF, nlt_12, nlt_12F, neq_12, neq_12F, n19_le, n19_leF, nle_19, nle_19F, n19_lt, n19_ltF, nlt_19, nlt_19F, neq_19, neq_19F, n20_le, n20_leF, nle_20, nle_20F, n20_lt, n20_ltF, nlt_20, nlt_20F, neq_20, neq_20F, n30_le, n30_leF, nle_30, nle_30F, n30_lt, n30_ltF, nlt_30, nlt_30F, neq_30, neq_30F, n36_le, n36_leF, nle_36, nle_36F, n36_lt, n36_ltF, nlt_36, nlt_36F, neq_36, neq_36F, n48_le, n48_leF, nle_48, nle_48F, n48_lt, n48_ltF, nlt_48, nlt_48F, neq_48, neq_48F, n60_le, n60_leF, nle_60, nle_60F, n60_lt, n60_ltF, nlt_60, nlt_60F, neq_60, neq_60F, n63_le, n63_leF, nle_63, nle_63F, n63_lt, n63_ltF, nlt_63, nlt_63F, neq_63, neq_63F, n64_le, n64_leF, nle_64, nle_64F, n64_lt, n64_ltF, nlt_64, nlt_64F, neq_64, neq_64F, n72_le, n72_leF, nle_72, nle_72F, n72_lt, n72_ltF, nlt_72, nlt_72F, neq_72, neq_72F, n100_le, n100_leF, nle_100, nle_100F, n100_lt, n100_ltF, nlt_100, nlt_100F, neq_100, neq_100F, n144_le, n144_leF, nle_144, nle_144F, n144_lt, n144_ltF, nlt_144, nlt_144F, neq_144, neq_144F, n255_le, n255_leF, nle_255, nle_255F, n255_lt, n255_ltF, nlt_255, nlt_255F, neq_255, neq_255F, n256_le, n256_leF, nle_256, nle_256F, n256_lt, n256_ltF, nlt_256, nlt_256F, neq_256, neq_256F, n999_le, n999_leF, nle_999, nle_999F, n999_lt, n999_ltF, nlt_999, nlt_999F, neq_999, neq_999F, n1000_le, n1000_leF, nle_1000, nle_1000F, n1000_lt, n1000_ltF, nlt_1000, nlt_1000F, neq_1000, neq_1000F, n1728_le, n1728_leF, nle_1728, nle_1728F, n1728_lt, n1728_ltF, nlt_1728, nlt_1728F, neq_1728, neq_1728F, n5000_le, n5000_leF, nle_5000, nle_5000F, n5000_lt, n5000_ltF, nlt_5000, nlt_5000F, neq_5000, neq_5000F, n4_mul, n4_mulr, n12_mul, n48_mul, n_mod4, n_div4, n_mod4b, false_implies, true_implies, forall_const, not_true_eq_false, not_false_eq_true, true_and, and_true, implies_true, Aft_some, Aft_none, Aft_thr, nsum_nil, nsum_int, nsum_ref, nsum_float, nsum_long, nsum_double, Nat.reduceAdd, Nat.reduceLeDiff, true_and, and_true, and_self, Nat.le_refl, Nat.zero_le]
theorem begin_c {c : Nat} (hb : isB b) (hl : l < 3) (hc : c < 12) (hk : ∀ s, s < 48 → okDk (S b) s) : Call kX2_begin [.ref b, .int (Int32.ofNat l), .int (Int32.ofNat c)] (H z S M) Q ↔ Q (.inl (some (.int (freshI (incB (S b)) l c 48 0 0)))) (H z (va_up S b (begA (S b) l c)) M) := by
  have hk2 : ∀ s, s < 48 → okDk (incB (S b)) s := by
    intro s hs
    have hag : agS (S b) (incB (S b)) s := ⟨fun k h1 h2 => up4_nk h1, fun k l h1 h2 => by unfold incB; rw [up4_nk (by omega)]⟩
    rw [hag.okDk]
    exact hk s hs
  obtain ⟨w, hi⟩ := bg_loop (z := z) (M := M) (Q := Q) (bc := 0) (bs := 0) hb hl hc hk2 (Int32.ofNat l) 48 0 0 .null (va_up S b (incB (S b))) (by omega) (by rw [up_at, bg_zero])
  have h0 : Int32.ofNat 0 = 0 := rfl
  rw [h0, up_up] at hi
  have e11 : bgA (incB (S b)) l c 48 11 = S b 11 := by
    rw [bg_k (by omega)]
    unfold incB
    rw [up4_nk (by omega)]
  unfold incB at hi e11
  unfold begA incB
  simp (disch := first | assumption | exact cat_int | exact cat_ref | exact cat_float | exact cat_null | exact isB_2 | exact isB_154 | omega) only [eX2_begin, sX2_begin_0, sX2_begin_1, sX2_begin_4, sX2_begin_5, sX2_begin_6, sX2_begin_7, sX2_begin_8, sX2_begin_9, sX2_begin_12, sX2_begin_13, sX2_begin_14, sX2_begin_17, sX2_begin_18, sX2_begin_20, sX2_begin_21, sX2_begin_25, sX2_begin_27, sX2_begin_30, sX2_begin_31, sX2_begin_32, sX2_begin_34, sX2_begin_37, sX2_begin_38, sX2_begin_41, sX2_begin_42, sX2_begin_45, sX2_begin_47, sX2_begin_48, sX2_begin_49, sX2_begin_52, sX2_begin_53, sX2_begin_54, sX2_begin_56, sX2_begin_59, sX2_begin_62, sX2_begin_63, sX2_begin_65, sX2_begin_68, sX2_begin_71, sX2_begin_72, sX2_begin_74, sX2_begin_75, sX2_begin_78, sX2_begin_79, sX2_begin_82, sX2_begin_85, sX2_begin_88, sX2_begin_89, sX2_begin_91, sX2_begin_94, sX2_begin_96, sX2_begin_97, sX2_begin_99, sX2_begin_100, sX2_begin_102, sX2_begin_103, sX2_begin_106, sX2_begin_107, sX2_begin_110, sX2_begin_113, sX2_begin_116, sX2_begin_119, sX2_begin_123, sX2_begin_124, sX2_begin_127, sX2_begin_128, sX2_begin_129, sX2_begin_132, sX2_begin_135, sX2_begin_137, rd_D_6, rd_D_10, wr_D_10, rd_Lists, false_implies, true_implies, forall_const, not_true_eq_false, not_false_eq_true, true_and, and_true, implies_true, Aft_some, Aft_none, Aft_thr, nsum_nil, nsum_int, nsum_ref, nsum_float, nsum_long, nsum_double, Nat.reduceAdd, Nat.reduceLeDiff, true_and, and_true, and_self, Nat.le_refl, Nat.zero_le, up_at, hi]
  simp (disch := first | assumption | exact cat_int | exact cat_ref | exact cat_float | exact cat_null | exact isB_2 | exact isB_154 | omega) only [eX2_begin, sX2_begin_0, sX2_begin_1, sX2_begin_4, sX2_begin_5, sX2_begin_6, sX2_begin_7, sX2_begin_8, sX2_begin_9, sX2_begin_12, sX2_begin_13, sX2_begin_14, sX2_begin_17, sX2_begin_18, sX2_begin_20, sX2_begin_21, sX2_begin_25, sX2_begin_27, sX2_begin_30, sX2_begin_31, sX2_begin_32, sX2_begin_34, sX2_begin_37, sX2_begin_38, sX2_begin_41, sX2_begin_42, sX2_begin_45, sX2_begin_47, sX2_begin_48, sX2_begin_49, sX2_begin_52, sX2_begin_53, sX2_begin_54, sX2_begin_56, sX2_begin_59, sX2_begin_62, sX2_begin_63, sX2_begin_65, sX2_begin_68, sX2_begin_71, sX2_begin_72, sX2_begin_74, sX2_begin_75, sX2_begin_78, sX2_begin_79, sX2_begin_82, sX2_begin_85, sX2_begin_88, sX2_begin_89, sX2_begin_91, sX2_begin_94, sX2_begin_96, sX2_begin_97, sX2_begin_99, sX2_begin_100, sX2_begin_102, sX2_begin_103, sX2_begin_106, sX2_begin_107, sX2_begin_110, sX2_begin_113, sX2_begin_116, sX2_begin_119, sX2_begin_122, sX2_begin_123, sX2_begin_124, sX2_begin_127, sX2_begin_128, sX2_begin_129, sX2_begin_132, sX2_begin_135, sX2_begin_137, rd_D_9, wr_L_2, wr_L_3, false_implies, true_implies, forall_const, not_true_eq_false, not_false_eq_true, true_and, and_true, implies_true, Aft_some, Aft_none, Aft_thr, up_at, up_up, up4_nk, e11]
theorem updateSlot_c (hb : isB b) (hl : l < 3) (hs : s < 48) (hk : okU (S b) l) : Call kX2_updateSlot [.ref b, .ref (aL b l), .int (Int32.ofNat s)] (H z S M) Q ↔ Q (.inl none) (H z (va_up S b (updS (S b) l s)) M) := by
  obtain ⟨k1, k2, p, hp12, hp⟩ := hk
  have h10 : ¬ (1 : Int32) = 0 := by decide
  have hpp : okP (S b 14 l 0 0) := by rw [hp]; exact okP_n hp12
  have hpp2 : okP (Int32.ofNat p) := okP_n hp12
  have hkeep : ∃ q, q < 12 ∧ keepI (S b) l s = Int32.ofNat q := by
    unfold keepI
    rcases srcI_cases (E := S b 29 l) hpp s with h | ⟨k, h1, h2, h3⟩
    · rw [if_pos h]; exact ⟨p, hp12, hp⟩
    · rw [if_neg (by rw [h2, n_neg (by omega)]; exact id)]; exact ⟨k, h1, h2⟩
  obtain ⟨q, hq, hke⟩ := hkeep
  have hqn : (Int32.ofNat q).toNatClampNeg = q := i_nat (by omega)
  have hrow : okN (S b 29 l q s) := k1 q hq s hs
  have key : ∀ v w, (Go kX2_updateSlot 38 [.ref b, .ref (aL b l), .int (Int32.ofNat s), .int (S b 9 0 0 s), .int v, .int (Int32.ofNat q), w] [] 0 0 (H z S M) Q ↔ Q (.inl none) (H z (va_up S b (updS (S b) l s)) M)) := by
    intro v w
    unfold updS
    rw [hke, hqn]
    by_cases h1 : S b 29 l q s < 256
    · simp (disch := first | assumption | exact cat_int | exact cat_ref | exact cat_float | exact cat_null | exact isB_2 | exact isB_154 | omega) only [eX2_updateSlot, sX2_updateSlot_0, sX2_updateSlot_1, sX2_updateSlot_4, sX2_updateSlot_7, sX2_updateSlot_8, sX2_updateSlot_9, sX2_updateSlot_10, sX2_updateSlot_11, sX2_updateSlot_12, sX2_updateSlot_15, sX2_updateSlot_16, sX2_updateSlot_19, sX2_updateSlot_21, sX2_updateSlot_23, sX2_updateSlot_24, sX2_updateSlot_27, sX2_updateSlot_28, sX2_updateSlot_31, sX2_updateSlot_34, sX2_updateSlot_36, sX2_updateSlot_38, sX2_updateSlot_39, sX2_updateSlot_42, sX2_updateSlot_44, sX2_updateSlot_45, sX2_updateSlot_48, sX2_updateSlot_51, sX2_updateSlot_52, sX2_updateSlot_53, sX2_updateSlot_55, sX2_updateSlot_57, sX2_updateSlot_60, sX2_updateSlot_63, sX2_updateSlot_64, sX2_updateSlot_67, sX2_updateSlot_70, sX2_updateSlot_71, sX2_updateSlot_74, sX2_updateSlot_76, sX2_updateSlot_79, sX2_updateSlot_80, sX2_updateSlot_81, sX2_updateSlot_84, sX2_updateSlot_85, sX2_updateSlot_88, sX2_updateSlot_89, sX2_updateSlot_92, sX2_updateSlot_94, sX2_updateSlot_95, sX2_updateSlot_98, sX2_updateSlot_99, sX2_updateSlot_100, sX2_updateSlot_103, sX2_updateSlot_104, rd_L_0, rd_Cues, rd_Cue_0, rd_Ent_0, rd_Row, isPalette_c, rc_Ent, put_E, h1, if_true, nT_le, nF_le, nT_lt, nF_lt, nT_eq, nF_eq, n_succ, n_add, n_neg, n_lt0, n_pred, n0_le, n0_leF, nle_0, nle_0F, n0_lt, n0_ltF, nlt_0, nlt_0F, neq_0, neq_0F, n1_le, n1_leF, nle_1, nle_1F, n1_lt, n1_ltF, nlt_1, nlt_1F, neq_1, neq_1F, n2_le, n2_leF, nle_2, nle_2F, n2_lt, n2_ltF, nlt_2, nlt_2F, neq_2, neq_2F, n3_le, n3_leF, nle_3, nle_3F, n3_lt, n3_ltF, nlt_3, nlt_3F, neq_3, neq_3F, n4_le, n4_leF, nle_4, nle_4F, n4_lt, n4_ltF, nlt_4, nlt_4F, neq_4, neq_4F, n5_le, n5_leF, nle_5, nle_5F, n5_lt, n5_ltF, nlt_5, nlt_5F, neq_5, neq_5F, n6_le, n6_leF, nle_6, nle_6F, n6_lt, n6_ltF, nlt_6, nlt_6F, neq_6, neq_6F, n7_le, n7_leF, nle_7, nle_7F, n7_lt, n7_ltF, nlt_7, nlt_7F, neq_7, neq_7F, n8_le, n8_leF, nle_8, nle_8F, n8_lt, n8_ltF, nlt_8, nlt_8F, neq_8, neq_8F, n9_le, n9_leF, nle_9, nle_9F, n9_lt, n9_ltF, nlt_9, nlt_9F, neq_9, neq_9F, n10_le, n10_leF, nle_10, nle_10F, n10_lt, n10_ltF, nlt_10, nlt_10F, neq_10, neq_10F, n11_le, n11_leF, nle_11, nle_11F, n11_lt, n11_ltF, nlt_11, nlt_11F, neq_11, neq_11F, n12_le, n12_leF, nle_12, nle_12F, n12_lt, n12_ltF, nlt_12, nlt_12F, neq_12, neq_12F, n19_le, n19_leF, nle_19, nle_19F, n19_lt, n19_ltF, nlt_19, nlt_19F, neq_19, neq_19F, n20_le, n20_leF, nle_20, nle_20F, n20_lt, n20_ltF, nlt_20, nlt_20F, neq_20, neq_20F, n30_le, n30_leF, nle_30, nle_30F, n30_lt, n30_ltF, nlt_30, nlt_30F, neq_30, neq_30F, n36_le, n36_leF, nle_36, nle_36F, n36_lt, n36_ltF, nlt_36, nlt_36F, neq_36, neq_36F, n48_le, n48_leF, nle_48, nle_48F, n48_lt, n48_ltF, nlt_48, nlt_48F, neq_48, neq_48F, n60_le, n60_leF, nle_60, nle_60F, n60_lt, n60_ltF, nlt_60, nlt_60F, neq_60, neq_60F, n63_le, n63_leF, nle_63, nle_63F, n63_lt, n63_ltF, nlt_63, nlt_63F, neq_63, neq_63F, n64_le, n64_leF, nle_64, nle_64F, n64_lt, n64_ltF, nlt_64, nlt_64F, neq_64, neq_64F, n72_le, n72_leF, nle_72, nle_72F, n72_lt, n72_ltF, nlt_72, nlt_72F, neq_72, neq_72F, n100_le, n100_leF, nle_100, nle_100F, n100_lt, n100_ltF, nlt_100, nlt_100F, neq_100, neq_100F, n144_le, n144_leF, nle_144, nle_144F, n144_lt, n144_ltF, nlt_144, nlt_144F, neq_144, neq_144F, n255_le, n255_leF, nle_255, nle_255F, n255_lt, n255_ltF, nlt_255, nlt_255F, neq_255, neq_255F, n256_le, n256_leF, nle_256, nle_256F, n256_lt, n256_ltF, nlt_256, nlt_256F, neq_256, neq_256F, n999_le, n999_leF, nle_999, nle_999F, n999_lt, n999_ltF, nlt_999, nlt_999F, neq_999, neq_999F, n1000_le, n1000_leF, nle_1000, nle_1000F, n1000_lt, n1000_ltF, nlt_1000, nlt_1000F, neq_1000, neq_1000F, n1728_le, n1728_leF, nle_1728, nle_1728F, n1728_lt, n1728_ltF, nlt_1728, nlt_1728F, neq_1728, neq_1728F, n5000_le, n5000_leF, nle_5000, nle_5000F, n5000_lt, n5000_ltF, nlt_5000, nlt_5000F, neq_5000, neq_5000F, n4_mul, n4_mulr, n12_mul, n48_mul, n_mod4, n_div4, n_mod4b, false_implies, true_implies, forall_const, not_true_eq_false, not_false_eq_true, true_and, and_true, implies_true, Aft_some, Aft_none, Aft_thr, nsum_nil, nsum_int, nsum_ref, nsum_float, nsum_long, nsum_double, Nat.reduceAdd, Nat.reduceLeDiff, true_and, and_true, and_self, Nat.le_refl, Nat.zero_le]
    · by_cases h2 : S b 9 0 0 s < 256
      · rcases hrow with h9 | ⟨p9, hp9, he9⟩
        · exact absurd h9 h1
        · have hpn : (Int32.ofNat p9).toNatClampNeg = p9 := i_nat (by omega)
          rw [he9] at h1
          simp (disch := first | assumption | exact cat_int | exact cat_ref | exact cat_float | exact cat_null | exact isB_2 | exact isB_154 | omega) only [eX2_updateSlot, sX2_updateSlot_0, sX2_updateSlot_1, sX2_updateSlot_4, sX2_updateSlot_7, sX2_updateSlot_8, sX2_updateSlot_9, sX2_updateSlot_10, sX2_updateSlot_11, sX2_updateSlot_12, sX2_updateSlot_15, sX2_updateSlot_16, sX2_updateSlot_19, sX2_updateSlot_21, sX2_updateSlot_23, sX2_updateSlot_24, sX2_updateSlot_27, sX2_updateSlot_28, sX2_updateSlot_31, sX2_updateSlot_34, sX2_updateSlot_36, sX2_updateSlot_38, sX2_updateSlot_39, sX2_updateSlot_42, sX2_updateSlot_44, sX2_updateSlot_45, sX2_updateSlot_48, sX2_updateSlot_51, sX2_updateSlot_52, sX2_updateSlot_53, sX2_updateSlot_55, sX2_updateSlot_57, sX2_updateSlot_60, sX2_updateSlot_63, sX2_updateSlot_64, sX2_updateSlot_67, sX2_updateSlot_70, sX2_updateSlot_71, sX2_updateSlot_74, sX2_updateSlot_76, sX2_updateSlot_79, sX2_updateSlot_80, sX2_updateSlot_81, sX2_updateSlot_84, sX2_updateSlot_85, sX2_updateSlot_88, sX2_updateSlot_89, sX2_updateSlot_92, sX2_updateSlot_94, sX2_updateSlot_95, sX2_updateSlot_98, sX2_updateSlot_99, sX2_updateSlot_100, sX2_updateSlot_103, sX2_updateSlot_104, rd_L_0, rd_Cues, rd_Cue_0, rd_Ent_0, rd_Row, isPalette_c, he9, h1, h2, h10, if_true, if_false, n_sub256, hpn, rd_D_4, rc_Pal, change_c, nT_le, nF_le, nT_lt, nF_lt, nT_eq, nF_eq, n_succ, n_add, n_neg, n_lt0, n_pred, n0_le, n0_leF, nle_0, nle_0F, n0_lt, n0_ltF, nlt_0, nlt_0F, neq_0, neq_0F, n1_le, n1_leF, nle_1, nle_1F, n1_lt, n1_ltF, nlt_1, nlt_1F, neq_1, neq_1F, n2_le, n2_leF, nle_2, nle_2F, n2_lt, n2_ltF, nlt_2, nlt_2F, neq_2, neq_2F, n3_le, n3_leF, nle_3, nle_3F, n3_lt, n3_ltF, nlt_3, nlt_3F, neq_3, neq_3F, n4_le, n4_leF, nle_4, nle_4F, n4_lt, n4_ltF, nlt_4, nlt_4F, neq_4, neq_4F, n5_le, n5_leF, nle_5, nle_5F, n5_lt, n5_ltF, nlt_5, nlt_5F, neq_5, neq_5F, n6_le, n6_leF, nle_6, nle_6F, n6_lt, n6_ltF, nlt_6, nlt_6F, neq_6, neq_6F, n7_le, n7_leF, nle_7, nle_7F, n7_lt, n7_ltF, nlt_7, nlt_7F, neq_7, neq_7F, n8_le, n8_leF, nle_8, nle_8F, n8_lt, n8_ltF, nlt_8, nlt_8F, neq_8, neq_8F, n9_le, n9_leF, nle_9, nle_9F, n9_lt, n9_ltF, nlt_9, nlt_9F, neq_9, neq_9F, n10_le, n10_leF, nle_10, nle_10F, n10_lt, n10_ltF, nlt_10, nlt_10F, neq_10, neq_10F, n11_le, n11_leF, nle_11, nle_11F, n11_lt, n11_ltF, nlt_11, nlt_11F, neq_11, neq_11F, n12_le, n12_leF, nle_12, nle_12F, n12_lt, n12_ltF, nlt_12, nlt_12F, neq_12, neq_12F, n19_le, n19_leF, nle_19, nle_19F, n19_lt, n19_ltF, nlt_19, nlt_19F, neq_19, neq_19F, n20_le, n20_leF, nle_20, nle_20F, n20_lt, n20_ltF, nlt_20, nlt_20F, neq_20, neq_20F, n30_le, n30_leF, nle_30, nle_30F, n30_lt, n30_ltF, nlt_30, nlt_30F, neq_30, neq_30F, n36_le, n36_leF, nle_36, nle_36F, n36_lt, n36_ltF, nlt_36, nlt_36F, neq_36, neq_36F, n48_le, n48_leF, nle_48, nle_48F, n48_lt, n48_ltF, nlt_48, nlt_48F, neq_48, neq_48F, n60_le, n60_leF, nle_60, nle_60F, n60_lt, n60_ltF, nlt_60, nlt_60F, neq_60, neq_60F, n63_le, n63_leF, nle_63, nle_63F, n63_lt, n63_ltF, nlt_63, nlt_63F, neq_63, neq_63F, n64_le, n64_leF, nle_64, nle_64F, n64_lt, n64_ltF, nlt_64, nlt_64F, neq_64, neq_64F, n72_le, n72_leF, nle_72, nle_72F, n72_lt, n72_ltF, nlt_72, nlt_72F, neq_72, neq_72F, n100_le, n100_leF, nle_100, nle_100F, n100_lt, n100_ltF, nlt_100, nlt_100F, neq_100, neq_100F, n144_le, n144_leF, nle_144, nle_144F, n144_lt, n144_ltF, nlt_144, nlt_144F, neq_144, neq_144F, n255_le, n255_leF, nle_255, nle_255F, n255_lt, n255_ltF, nlt_255, nlt_255F, neq_255, neq_255F, n256_le, n256_leF, nle_256, nle_256F, n256_lt, n256_ltF, nlt_256, nlt_256F, neq_256, neq_256F, n999_le, n999_leF, nle_999, nle_999F, n999_lt, n999_ltF, nlt_999, nlt_999F, neq_999, neq_999F, n1000_le, n1000_leF, nle_1000, nle_1000F, n1000_lt, n1000_ltF, nlt_1000, nlt_1000F, neq_1000, neq_1000F, n1728_le, n1728_leF, nle_1728, nle_1728F, n1728_lt, n1728_ltF, nlt_1728, nlt_1728F, neq_1728, neq_1728F, n5000_le, n5000_leF, nle_5000, nle_5000F, n5000_lt, n5000_ltF, nlt_5000, nlt_5000F, neq_5000, neq_5000F, n4_mul, n4_mulr, n12_mul, n48_mul, n_mod4, n_div4, n_mod4b, false_implies, true_implies, forall_const, not_true_eq_false, not_false_eq_true, true_and, and_true, implies_true, Aft_some, Aft_none, Aft_thr, nsum_nil, nsum_int, nsum_ref, nsum_float, nsum_long, nsum_double, Nat.reduceAdd, Nat.reduceLeDiff, true_and, and_true, and_self, Nat.le_refl, Nat.zero_le]
      · simp (disch := first | assumption | exact cat_int | exact cat_ref | exact cat_float | exact cat_null | exact isB_2 | exact isB_154 | omega) only [eX2_updateSlot, sX2_updateSlot_0, sX2_updateSlot_1, sX2_updateSlot_4, sX2_updateSlot_7, sX2_updateSlot_8, sX2_updateSlot_9, sX2_updateSlot_10, sX2_updateSlot_11, sX2_updateSlot_12, sX2_updateSlot_15, sX2_updateSlot_16, sX2_updateSlot_19, sX2_updateSlot_21, sX2_updateSlot_23, sX2_updateSlot_24, sX2_updateSlot_27, sX2_updateSlot_28, sX2_updateSlot_31, sX2_updateSlot_34, sX2_updateSlot_36, sX2_updateSlot_38, sX2_updateSlot_39, sX2_updateSlot_42, sX2_updateSlot_44, sX2_updateSlot_45, sX2_updateSlot_48, sX2_updateSlot_51, sX2_updateSlot_52, sX2_updateSlot_53, sX2_updateSlot_55, sX2_updateSlot_57, sX2_updateSlot_60, sX2_updateSlot_63, sX2_updateSlot_64, sX2_updateSlot_67, sX2_updateSlot_70, sX2_updateSlot_71, sX2_updateSlot_74, sX2_updateSlot_76, sX2_updateSlot_79, sX2_updateSlot_80, sX2_updateSlot_81, sX2_updateSlot_84, sX2_updateSlot_85, sX2_updateSlot_88, sX2_updateSlot_89, sX2_updateSlot_92, sX2_updateSlot_94, sX2_updateSlot_95, sX2_updateSlot_98, sX2_updateSlot_99, sX2_updateSlot_100, sX2_updateSlot_103, sX2_updateSlot_104, rd_L_0, rd_Cues, rd_Cue_0, rd_Ent_0, rd_Row, isPalette_c, rc_Ent, put_E, h1, h2, h10, if_true, if_false, nT_le, nF_le, nT_lt, nF_lt, nT_eq, nF_eq, n_succ, n_add, n_neg, n_lt0, n_pred, n0_le, n0_leF, nle_0, nle_0F, n0_lt, n0_ltF, nlt_0, nlt_0F, neq_0, neq_0F, n1_le, n1_leF, nle_1, nle_1F, n1_lt, n1_ltF, nlt_1, nlt_1F, neq_1, neq_1F, n2_le, n2_leF, nle_2, nle_2F, n2_lt, n2_ltF, nlt_2, nlt_2F, neq_2, neq_2F, n3_le, n3_leF, nle_3, nle_3F, n3_lt, n3_ltF, nlt_3, nlt_3F, neq_3, neq_3F, n4_le, n4_leF, nle_4, nle_4F, n4_lt, n4_ltF, nlt_4, nlt_4F, neq_4, neq_4F, n5_le, n5_leF, nle_5, nle_5F, n5_lt, n5_ltF, nlt_5, nlt_5F, neq_5, neq_5F, n6_le, n6_leF, nle_6, nle_6F, n6_lt, n6_ltF, nlt_6, nlt_6F, neq_6, neq_6F, n7_le, n7_leF, nle_7, nle_7F, n7_lt, n7_ltF, nlt_7, nlt_7F, neq_7, neq_7F, n8_le, n8_leF, nle_8, nle_8F, n8_lt, n8_ltF, nlt_8, nlt_8F, neq_8, neq_8F, n9_le, n9_leF, nle_9, nle_9F, n9_lt, n9_ltF, nlt_9, nlt_9F, neq_9, neq_9F, n10_le, n10_leF, nle_10, nle_10F, n10_lt, n10_ltF, nlt_10, nlt_10F, neq_10, neq_10F, n11_le, n11_leF, nle_11, nle_11F, n11_lt, n11_ltF, nlt_11, nlt_11F, neq_11, neq_11F, n12_le, n12_leF, nle_12, nle_12F, n12_lt, n12_ltF, nlt_12, nlt_12F, neq_12, neq_12F, n19_le, n19_leF, nle_19, nle_19F, n19_lt, n19_ltF, nlt_19, nlt_19F, neq_19, neq_19F, n20_le, n20_leF, nle_20, nle_20F, n20_lt, n20_ltF, nlt_20, nlt_20F, neq_20, neq_20F, n30_le, n30_leF, nle_30, nle_30F, n30_lt, n30_ltF, nlt_30, nlt_30F, neq_30, neq_30F, n36_le, n36_leF, nle_36, nle_36F, n36_lt, n36_ltF, nlt_36, nlt_36F, neq_36, neq_36F, n48_le, n48_leF, nle_48, nle_48F, n48_lt, n48_ltF, nlt_48, nlt_48F, neq_48, neq_48F, n60_le, n60_leF, nle_60, nle_60F, n60_lt, n60_ltF, nlt_60, nlt_60F, neq_60, neq_60F, n63_le, n63_leF, nle_63, nle_63F, n63_lt, n63_ltF, nlt_63, nlt_63F, neq_63, neq_63F, n64_le, n64_leF, nle_64, nle_64F, n64_lt, n64_ltF, nlt_64, nlt_64F, neq_64, neq_64F, n72_le, n72_leF, nle_72, nle_72F, n72_lt, n72_ltF, nlt_72, nlt_72F, neq_72, neq_72F, n100_le, n100_leF, nle_100, nle_100F, n100_lt, n100_ltF, nlt_100, nlt_100F, neq_100, neq_100F, n144_le, n144_leF, nle_144, nle_144F, n144_lt, n144_ltF, nlt_144, nlt_144F, neq_144, neq_144F, n255_le, n255_leF, nle_255, nle_255F, n255_lt, n255_ltF, nlt_255, nlt_255F, neq_255, neq_255F, n256_le, n256_leF, nle_256, nle_256F, n256_lt, n256_ltF, nlt_256, nlt_256F, neq_256, neq_256F, n999_le, n999_leF, nle_999, nle_999F, n999_lt, n999_ltF, nlt_999, nlt_999F, neq_999, neq_999F, n1000_le, n1000_leF, nle_1000, nle_1000F, n1000_lt, n1000_ltF, nlt_1000, nlt_1000F, neq_1000, neq_1000F, n1728_le, n1728_leF, nle_1728, nle_1728F, n1728_lt, n1728_ltF, nlt_1728, nlt_1728F, neq_1728, neq_1728F, n5000_le, n5000_leF, nle_5000, nle_5000F, n5000_lt, n5000_ltF, nlt_5000, nlt_5000F, neq_5000, neq_5000F, n4_mul, n4_mulr, n12_mul, n48_mul, n_mod4, n_div4, n_mod4b, false_implies, true_implies, forall_const, not_true_eq_false, not_false_eq_true, true_and, and_true, implies_true, Aft_some, Aft_none, Aft_thr, nsum_nil, nsum_int, nsum_ref, nsum_float, nsum_long, nsum_double, Nat.reduceAdd, Nat.reduceLeDiff, true_and, and_true, and_self, Nat.le_refl, Nat.zero_le]
  rcases srcI_cases (E := S b 29 l) hpp s with h | ⟨k, h1, h2, h3⟩
  · have hqp : q = p := by
      unfold keepI at hke
      rw [if_pos h, hp] at hke
      exact ((i_eq (by omega) (by omega)).mp hke).symm
    subst hqp
    rw [hp] at h
    simp (disch := first | assumption | exact cat_int | exact cat_ref | exact cat_float | exact cat_null | exact isB_2 | exact isB_154 | omega) only [eX2_updateSlot, sX2_updateSlot_0, sX2_updateSlot_1, sX2_updateSlot_4, sX2_updateSlot_7, sX2_updateSlot_8, sX2_updateSlot_9, sX2_updateSlot_10, sX2_updateSlot_11, sX2_updateSlot_12, sX2_updateSlot_15, sX2_updateSlot_16, sX2_updateSlot_19, sX2_updateSlot_21, sX2_updateSlot_23, sX2_updateSlot_24, sX2_updateSlot_27, sX2_updateSlot_28, sX2_updateSlot_31, sX2_updateSlot_34, sX2_updateSlot_36, sX2_updateSlot_39, sX2_updateSlot_42, sX2_updateSlot_44, sX2_updateSlot_45, sX2_updateSlot_48, sX2_updateSlot_51, sX2_updateSlot_52, sX2_updateSlot_53, sX2_updateSlot_55, sX2_updateSlot_57, sX2_updateSlot_60, sX2_updateSlot_63, sX2_updateSlot_64, sX2_updateSlot_67, sX2_updateSlot_70, sX2_updateSlot_71, sX2_updateSlot_74, sX2_updateSlot_76, sX2_updateSlot_79, sX2_updateSlot_80, sX2_updateSlot_81, sX2_updateSlot_84, sX2_updateSlot_85, sX2_updateSlot_88, sX2_updateSlot_89, sX2_updateSlot_92, sX2_updateSlot_94, sX2_updateSlot_95, sX2_updateSlot_98, sX2_updateSlot_99, sX2_updateSlot_100, sX2_updateSlot_103, sX2_updateSlot_104, rd_D_5, rd_Prg_0, rd_PrgR, rd_L_2, rc_L, hp, sourceOf_c, h, nT_le, nF_le, nT_lt, nF_lt, nT_eq, nF_eq, n_succ, n_add, n_neg, n_lt0, n_pred, n0_le, n0_leF, nle_0, nle_0F, n0_lt, n0_ltF, nlt_0, nlt_0F, neq_0, neq_0F, n1_le, n1_leF, nle_1, nle_1F, n1_lt, n1_ltF, nlt_1, nlt_1F, neq_1, neq_1F, n2_le, n2_leF, nle_2, nle_2F, n2_lt, n2_ltF, nlt_2, nlt_2F, neq_2, neq_2F, n3_le, n3_leF, nle_3, nle_3F, n3_lt, n3_ltF, nlt_3, nlt_3F, neq_3, neq_3F, n4_le, n4_leF, nle_4, nle_4F, n4_lt, n4_ltF, nlt_4, nlt_4F, neq_4, neq_4F, n5_le, n5_leF, nle_5, nle_5F, n5_lt, n5_ltF, nlt_5, nlt_5F, neq_5, neq_5F, n6_le, n6_leF, nle_6, nle_6F, n6_lt, n6_ltF, nlt_6, nlt_6F, neq_6, neq_6F, n7_le, n7_leF, nle_7, nle_7F, n7_lt, n7_ltF, nlt_7, nlt_7F, neq_7, neq_7F, n8_le, n8_leF, nle_8, nle_8F, n8_lt, n8_ltF, nlt_8, nlt_8F, neq_8, neq_8F, n9_le, n9_leF, nle_9, nle_9F, n9_lt, n9_ltF, nlt_9, nlt_9F, neq_9, neq_9F, n10_le, n10_leF, nle_10, nle_10F, n10_lt, n10_ltF, nlt_10, nlt_10F, neq_10, neq_10F, n11_le, n11_leF, nle_11, nle_11F, n11_lt, n11_ltF, nlt_11, nlt_11F, neq_11, neq_11F, n12_le, n12_leF, nle_12, nle_12F, n12_lt, n12_ltF, nlt_12, nlt_12F, neq_12, neq_12F, n19_le, n19_leF, nle_19, nle_19F, n19_lt, n19_ltF, nlt_19, nlt_19F, neq_19, neq_19F, n20_le, n20_leF, nle_20, nle_20F, n20_lt, n20_ltF, nlt_20, nlt_20F, neq_20, neq_20F, n30_le, n30_leF, nle_30, nle_30F, n30_lt, n30_ltF, nlt_30, nlt_30F, neq_30, neq_30F, n36_le, n36_leF, nle_36, nle_36F, n36_lt, n36_ltF, nlt_36, nlt_36F, neq_36, neq_36F, n48_le, n48_leF, nle_48, nle_48F, n48_lt, n48_ltF, nlt_48, nlt_48F, neq_48, neq_48F, n60_le, n60_leF, nle_60, nle_60F, n60_lt, n60_ltF, nlt_60, nlt_60F, neq_60, neq_60F, n63_le, n63_leF, nle_63, nle_63F, n63_lt, n63_ltF, nlt_63, nlt_63F, neq_63, neq_63F, n64_le, n64_leF, nle_64, nle_64F, n64_lt, n64_ltF, nlt_64, nlt_64F, neq_64, neq_64F, n72_le, n72_leF, nle_72, nle_72F, n72_lt, n72_ltF, nlt_72, nlt_72F, neq_72, neq_72F, n100_le, n100_leF, nle_100, nle_100F, n100_lt, n100_ltF, nlt_100, nlt_100F, neq_100, neq_100F, n144_le, n144_leF, nle_144, nle_144F, n144_lt, n144_ltF, nlt_144, nlt_144F, neq_144, neq_144F, n255_le, n255_leF, nle_255, nle_255F, n255_lt, n255_ltF, nlt_255, nlt_255F, neq_255, neq_255F, n256_le, n256_leF, nle_256, nle_256F, n256_lt, n256_ltF, nlt_256, nlt_256F, neq_256, neq_256F, n999_le, n999_leF, nle_999, nle_999F, n999_lt, n999_ltF, nlt_999, nlt_999F, neq_999, neq_999F, n1000_le, n1000_leF, nle_1000, nle_1000F, n1000_lt, n1000_ltF, nlt_1000, nlt_1000F, neq_1000, neq_1000F, n1728_le, n1728_leF, nle_1728, nle_1728F, n1728_lt, n1728_ltF, nlt_1728, nlt_1728F, neq_1728, neq_1728F, n5000_le, n5000_leF, nle_5000, nle_5000F, n5000_lt, n5000_ltF, nlt_5000, nlt_5000F, neq_5000, neq_5000F, n4_mul, n4_mulr, n12_mul, n48_mul, n_mod4, n_div4, n_mod4b, false_implies, true_implies, forall_const, not_true_eq_false, not_false_eq_true, true_and, and_true, implies_true, Aft_some, Aft_none, Aft_thr, nsum_nil, nsum_int, nsum_ref, nsum_float, nsum_long, nsum_double, Nat.reduceAdd, Nat.reduceLeDiff, true_and, and_true, and_self, Nat.le_refl, Nat.zero_le, key]
  · have hqp : q = k := by
      unfold keepI at hke
      rw [if_neg (by rw [h2, n_neg (by omega)]; exact id), h2] at hke
      exact ((i_eq (by omega) (by omega)).mp hke).symm
    subst hqp
    rw [hp] at h2
    simp (disch := first | assumption | exact cat_int | exact cat_ref | exact cat_float | exact cat_null | exact isB_2 | exact isB_154 | omega) only [eX2_updateSlot, sX2_updateSlot_0, sX2_updateSlot_1, sX2_updateSlot_4, sX2_updateSlot_7, sX2_updateSlot_8, sX2_updateSlot_9, sX2_updateSlot_10, sX2_updateSlot_11, sX2_updateSlot_12, sX2_updateSlot_15, sX2_updateSlot_16, sX2_updateSlot_19, sX2_updateSlot_21, sX2_updateSlot_23, sX2_updateSlot_24, sX2_updateSlot_27, sX2_updateSlot_28, sX2_updateSlot_31, sX2_updateSlot_34, sX2_updateSlot_36, sX2_updateSlot_39, sX2_updateSlot_42, sX2_updateSlot_44, sX2_updateSlot_45, sX2_updateSlot_48, sX2_updateSlot_51, sX2_updateSlot_52, sX2_updateSlot_53, sX2_updateSlot_55, sX2_updateSlot_57, sX2_updateSlot_60, sX2_updateSlot_63, sX2_updateSlot_64, sX2_updateSlot_67, sX2_updateSlot_70, sX2_updateSlot_71, sX2_updateSlot_74, sX2_updateSlot_76, sX2_updateSlot_79, sX2_updateSlot_80, sX2_updateSlot_81, sX2_updateSlot_84, sX2_updateSlot_85, sX2_updateSlot_88, sX2_updateSlot_89, sX2_updateSlot_92, sX2_updateSlot_94, sX2_updateSlot_95, sX2_updateSlot_98, sX2_updateSlot_99, sX2_updateSlot_100, sX2_updateSlot_103, sX2_updateSlot_104, rd_D_5, rd_Prg_0, rd_PrgR, rd_L_2, rc_L, hp, sourceOf_c, h2, nT_le, nF_le, nT_lt, nF_lt, nT_eq, nF_eq, n_succ, n_add, n_neg, n_lt0, n_pred, n0_le, n0_leF, nle_0, nle_0F, n0_lt, n0_ltF, nlt_0, nlt_0F, neq_0, neq_0F, n1_le, n1_leF, nle_1, nle_1F, n1_lt, n1_ltF, nlt_1, nlt_1F, neq_1, neq_1F, n2_le, n2_leF, nle_2, nle_2F, n2_lt, n2_ltF, nlt_2, nlt_2F, neq_2, neq_2F, n3_le, n3_leF, nle_3, nle_3F, n3_lt, n3_ltF, nlt_3, nlt_3F, neq_3, neq_3F, n4_le, n4_leF, nle_4, nle_4F, n4_lt, n4_ltF, nlt_4, nlt_4F, neq_4, neq_4F, n5_le, n5_leF, nle_5, nle_5F, n5_lt, n5_ltF, nlt_5, nlt_5F, neq_5, neq_5F, n6_le, n6_leF, nle_6, nle_6F, n6_lt, n6_ltF, nlt_6, nlt_6F, neq_6, neq_6F, n7_le, n7_leF, nle_7, nle_7F, n7_lt, n7_ltF, nlt_7, nlt_7F, neq_7, neq_7F, n8_le, n8_leF, nle_8, nle_8F, n8_lt, n8_ltF, nlt_8, nlt_8F, neq_8, neq_8F, n9_le, n9_leF, nle_9, nle_9F, n9_lt, n9_ltF, nlt_9, nlt_9F, neq_9, neq_9F, n10_le, n10_leF, nle_10, nle_10F, n10_lt, n10_ltF, nlt_10, nlt_10F, neq_10, neq_10F, n11_le, n11_leF, nle_11, nle_11F, n11_lt, n11_ltF, nlt_11, nlt_11F, neq_11, neq_11F, n12_le, n12_leF, nle_12, nle_12F, n12_lt, n12_ltF, nlt_12, nlt_12F, neq_12, neq_12F, n19_le, n19_leF, nle_19, nle_19F, n19_lt, n19_ltF, nlt_19, nlt_19F, neq_19, neq_19F, n20_le, n20_leF, nle_20, nle_20F, n20_lt, n20_ltF, nlt_20, nlt_20F, neq_20, neq_20F, n30_le, n30_leF, nle_30, nle_30F, n30_lt, n30_ltF, nlt_30, nlt_30F, neq_30, neq_30F, n36_le, n36_leF, nle_36, nle_36F, n36_lt, n36_ltF, nlt_36, nlt_36F, neq_36, neq_36F, n48_le, n48_leF, nle_48, nle_48F, n48_lt, n48_ltF, nlt_48, nlt_48F, neq_48, neq_48F, n60_le, n60_leF, nle_60, nle_60F, n60_lt, n60_ltF, nlt_60, nlt_60F, neq_60, neq_60F, n63_le, n63_leF, nle_63, nle_63F, n63_lt, n63_ltF, nlt_63, nlt_63F, neq_63, neq_63F, n64_le, n64_leF, nle_64, nle_64F, n64_lt, n64_ltF, nlt_64, nlt_64F, neq_64, neq_64F, n72_le, n72_leF, nle_72, nle_72F, n72_lt, n72_ltF, nlt_72, nlt_72F, neq_72, neq_72F, n100_le, n100_leF, nle_100, nle_100F, n100_lt, n100_ltF, nlt_100, nlt_100F, neq_100, neq_100F, n144_le, n144_leF, nle_144, nle_144F, n144_lt, n144_ltF, nlt_144, nlt_144F, neq_144, neq_144F, n255_le, n255_leF, nle_255, nle_255F, n255_lt, n255_ltF, nlt_255, nlt_255F, neq_255, neq_255F, n256_le, n256_leF, nle_256, nle_256F, n256_lt, n256_ltF, nlt_256, nlt_256F, neq_256, neq_256F, n999_le, n999_leF, nle_999, nle_999F, n999_lt, n999_ltF, nlt_999, nlt_999F, neq_999, neq_999F, n1000_le, n1000_leF, nle_1000, nle_1000F, n1000_lt, n1000_ltF, nlt_1000, nlt_1000F, neq_1000, neq_1000F, n1728_le, n1728_leF, nle_1728, nle_1728F, n1728_lt, n1728_ltF, nlt_1728, nlt_1728F, neq_1728, neq_1728F, n5000_le, n5000_leF, nle_5000, nle_5000F, n5000_lt, n5000_ltF, nlt_5000, nlt_5000F, neq_5000, neq_5000F, n4_mul, n4_mulr, n12_mul, n48_mul, n_mod4, n_div4, n_mod4b, false_implies, true_implies, forall_const, not_true_eq_false, not_false_eq_true, true_and, and_true, implies_true, Aft_some, Aft_none, Aft_thr, nsum_nil, nsum_int, nsum_ref, nsum_float, nsum_long, nsum_double, Nat.reduceAdd, Nat.reduceLeDiff, true_and, and_true, and_self, Nat.le_refl, Nat.zero_le, key]
theorem okU_putE {A : St} {c : Nat} {y : Int32} (h : okU A l) (hy : okN y) : okU (putE A l c s y) l := by
  obtain ⟨k1, k2, p, hp12, hp⟩ := h
  refine ⟨fun c1 hc1 s1 hs1 => ?_, fun s1 hs1 => ?_, p, hp12, ?_⟩
  · unfold putE up4
    by_cases h1 : c1 = c ∧ s1 = s
    · simp only [h1.1, h1.2, and_self, if_true]; exact hy
    · rw [if_neg (fun h2 => h1 ⟨h2.2.2.1, h2.2.2.2⟩), if_neg (by omega)]
      exact k1 c1 hc1 s1 hs1
  · unfold putE
    rw [up4_nk (by omega), up4_nk (by omega)]
    exact k2 s1 hs1
  · unfold putE
    rw [up4_nk (by omega), up4_nk (by omega)]
    exact hp
theorem okU_updS {A : St} (hs : s < 48) (h : okU A l) : okU (updS A l s) l := by
  have hy : okN (A 9 0 0 s) := h.2.1 s hs
  unfold updS
  split
  · exact okU_putE h hy
  · split
    · obtain ⟨k1, k2, p, hp12, hp⟩ := h
      exact ⟨fun c1 hc1 => by rw [up4_nk (by omega)]; exact k1 c1 hc1, by rw [up4_nk (by omega)]; exact k2, p, hp12, by rw [up4_nk (by omega)]; exact hp⟩
    · exact okU_putE h hy
theorem upd_loop (hb : isB b) (hl : l < 3) (ini : Int32) : ∀ (m j : Nat) (S : Nat → St), j + m = 48 → okU (S b) l →
    (Go kX2_updateList 9 [.ref b, .int ini, .ref (aL b l), .int (Int32.ofNat j)] [] bc bs (H z S M) Q ↔ Go kX2_updateList 38 [.ref b, .int ini, .ref (aL b l), .int (Int32.ofNat 48)] [] bc bs (H z (va_up S b (updF l m j (S b))) M) Q) := by
  intro m
  induction m with
  | zero =>
    intro j S hj hk
    obtain rfl : j = 48 := by omega
    unfold updF
    rw [up_self, sX2_updateList_9]
    simp (disch := first | assumption | exact cat_int | exact cat_ref | exact cat_float | exact cat_null | exact isB_2 | exact isB_154 | omega) only [eX2_updateList, sX2_updateList_0, sX2_updateList_1, sX2_updateList_4, sX2_updateList_5, sX2_updateList_6, sX2_updateList_7, sX2_updateList_8, sX2_updateList_10, sX2_updateList_12, sX2_updateList_15, sX2_updateList_16, sX2_updateList_19, sX2_updateList_20, sX2_updateList_23, sX2_updateList_26, sX2_updateList_27, sX2_updateList_28, sX2_updateList_29, sX2_updateList_32, sX2_updateList_35, sX2_updateList_39, sX2_updateList_42, sX2_updateList_45, nT_le, nF_le, nT_lt, nF_lt, nT_eq, nF_eq, n_succ, n_add, n_neg, n_lt0, n_pred, n0_le, n0_leF, nle_0, nle_0F, n0_lt, n0_ltF, nlt_0, nlt_0F, neq_0, neq_0F, n1_le, n1_leF, nle_1, nle_1F, n1_lt, n1_ltF, nlt_1, nlt_1F, neq_1, neq_1F, n2_le, n2_leF, nle_2, nle_2F, n2_lt, n2_ltF, nlt_2, nlt_2F, neq_2, neq_2F, n3_le, n3_leF, nle_3, nle_3F, n3_lt, n3_ltF, nlt_3, nlt_3F, neq_3, neq_3F, n4_le, n4_leF, nle_4, nle_4F, n4_lt, n4_ltF, nlt_4, nlt_4F, neq_4, neq_4F, n5_le, n5_leF, nle_5, nle_5F, n5_lt, n5_ltF, nlt_5, nlt_5F, neq_5, neq_5F, n6_le, n6_leF, nle_6, nle_6F, n6_lt, n6_ltF, nlt_6, nlt_6F, neq_6, neq_6F, n7_le, n7_leF, nle_7, nle_7F, n7_lt, n7_ltF, nlt_7, nlt_7F, neq_7, neq_7F, n8_le, n8_leF, nle_8, nle_8F, n8_lt, n8_ltF, nlt_8, nlt_8F, neq_8, neq_8F, n9_le, n9_leF, nle_9, nle_9F, n9_lt, n9_ltF, nlt_9, nlt_9F, neq_9, neq_9F, n10_le, n10_leF, nle_10, nle_10F, n10_lt, n10_ltF, nlt_10, nlt_10F, neq_10, neq_10F, n11_le, n11_leF, nle_11, nle_11F, n11_lt, n11_ltF, nlt_11, nlt_11F, neq_11, neq_11F, n12_le, n12_leF, nle_12, nle_12F, n12_lt, n12_ltF, nlt_12, nlt_12F, neq_12, neq_12F, n19_le, n19_leF, nle_19, nle_19F, n19_lt, n19_ltF, nlt_19, nlt_19F, neq_19, neq_19F, n20_le, n20_leF, nle_20, nle_20F, n20_lt, n20_ltF, nlt_20, nlt_20F, neq_20, neq_20F, n30_le, n30_leF, nle_30, nle_30F, n30_lt, n30_ltF, nlt_30, nlt_30F, neq_30, neq_30F, n36_le, n36_leF, nle_36, nle_36F, n36_lt, n36_ltF, nlt_36, nlt_36F, neq_36, neq_36F, n48_le, n48_leF, nle_48, nle_48F, n48_lt, n48_ltF, nlt_48, nlt_48F, neq_48, neq_48F, n60_le, n60_leF, nle_60, nle_60F, n60_lt, n60_ltF, nlt_60, nlt_60F, neq_60, neq_60F, n63_le, n63_leF, nle_63, nle_63F, n63_lt, n63_ltF, nlt_63, nlt_63F, neq_63, neq_63F, n64_le, n64_leF, nle_64, nle_64F, n64_lt, n64_ltF, nlt_64, nlt_64F, neq_64, neq_64F, n72_le, n72_leF, nle_72, nle_72F, n72_lt, n72_ltF, nlt_72, nlt_72F, neq_72, neq_72F, n100_le, n100_leF, nle_100, nle_100F, n100_lt, n100_ltF, nlt_100, nlt_100F, neq_100, neq_100F, n144_le, n144_leF, nle_144, nle_144F, n144_lt, n144_ltF, nlt_144, nlt_144F, neq_144, neq_144F, n255_le, n255_leF, nle_255, nle_255F, n255_lt, n255_ltF, nlt_255, nlt_255F, neq_255, neq_255F, n256_le, n256_leF, nle_256, nle_256F, n256_lt, n256_ltF, nlt_256, nlt_256F, neq_256, neq_256F, n999_le, n999_leF, nle_999, nle_999F, n999_lt, n999_ltF, nlt_999, nlt_999F, neq_999, neq_999F, n1000_le, n1000_leF, nle_1000, nle_1000F, n1000_lt, n1000_ltF, nlt_1000, nlt_1000F, neq_1000, neq_1000F, n1728_le, n1728_leF, nle_1728, nle_1728F, n1728_lt, n1728_ltF, nlt_1728, nlt_1728F, neq_1728, neq_1728F, n5000_le, n5000_leF, nle_5000, nle_5000F, n5000_lt, n5000_ltF, nlt_5000, nlt_5000F, neq_5000, neq_5000F, n4_mul, n4_mulr, n12_mul, n48_mul, n_mod4, n_div4, n_mod4b, false_implies, true_implies, forall_const, not_true_eq_false, not_false_eq_true, true_and, and_true, implies_true, Aft_some, Aft_none, Aft_thr]
  | succ m ih =>
    intro j S hj hk
    have h10 : ¬ (1 : Int32) = 0 := by decide
    by_cases h1 : S b 9 0 0 j = -1
    · have hi := ih (j + 1) S (by omega) hk
      unfold updF
      rw [if_pos h1, ← hi, sX2_updateList_9]
      simp (disch := first | assumption | exact cat_int | exact cat_ref | exact cat_float | exact cat_null | exact isB_2 | exact isB_154 | omega) only [eX2_updateList, sX2_updateList_0, sX2_updateList_1, sX2_updateList_4, sX2_updateList_5, sX2_updateList_6, sX2_updateList_7, sX2_updateList_8, sX2_updateList_10, sX2_updateList_12, sX2_updateList_15, sX2_updateList_16, sX2_updateList_19, sX2_updateList_20, sX2_updateList_23, sX2_updateList_26, sX2_updateList_27, sX2_updateList_28, sX2_updateList_29, sX2_updateList_32, sX2_updateList_35, sX2_updateList_39, sX2_updateList_42, sX2_updateList_45, rd_D_5, rc_Prg, has_P, h1, if_true, nT_le, nF_le, nT_lt, nF_lt, nT_eq, nF_eq, n_succ, n_add, n_neg, n_lt0, n_pred, n0_le, n0_leF, nle_0, nle_0F, n0_lt, n0_ltF, nlt_0, nlt_0F, neq_0, neq_0F, n1_le, n1_leF, nle_1, nle_1F, n1_lt, n1_ltF, nlt_1, nlt_1F, neq_1, neq_1F, n2_le, n2_leF, nle_2, nle_2F, n2_lt, n2_ltF, nlt_2, nlt_2F, neq_2, neq_2F, n3_le, n3_leF, nle_3, nle_3F, n3_lt, n3_ltF, nlt_3, nlt_3F, neq_3, neq_3F, n4_le, n4_leF, nle_4, nle_4F, n4_lt, n4_ltF, nlt_4, nlt_4F, neq_4, neq_4F, n5_le, n5_leF, nle_5, nle_5F, n5_lt, n5_ltF, nlt_5, nlt_5F, neq_5, neq_5F, n6_le, n6_leF, nle_6, nle_6F, n6_lt, n6_ltF, nlt_6, nlt_6F, neq_6, neq_6F, n7_le, n7_leF, nle_7, nle_7F, n7_lt, n7_ltF, nlt_7, nlt_7F, neq_7, neq_7F, n8_le, n8_leF, nle_8, nle_8F, n8_lt, n8_ltF, nlt_8, nlt_8F, neq_8, neq_8F, n9_le, n9_leF, nle_9, nle_9F, n9_lt, n9_ltF, nlt_9, nlt_9F, neq_9, neq_9F, n10_le, n10_leF, nle_10, nle_10F, n10_lt, n10_ltF, nlt_10, nlt_10F, neq_10, neq_10F, n11_le, n11_leF, nle_11, nle_11F, n11_lt, n11_ltF, nlt_11, nlt_11F, neq_11, neq_11F, n12_le, n12_leF, nle_12, nle_12F, n12_lt, n12_ltF, nlt_12, nlt_12F, neq_12, neq_12F, n19_le, n19_leF, nle_19, nle_19F, n19_lt, n19_ltF, nlt_19, nlt_19F, neq_19, neq_19F, n20_le, n20_leF, nle_20, nle_20F, n20_lt, n20_ltF, nlt_20, nlt_20F, neq_20, neq_20F, n30_le, n30_leF, nle_30, nle_30F, n30_lt, n30_ltF, nlt_30, nlt_30F, neq_30, neq_30F, n36_le, n36_leF, nle_36, nle_36F, n36_lt, n36_ltF, nlt_36, nlt_36F, neq_36, neq_36F, n48_le, n48_leF, nle_48, nle_48F, n48_lt, n48_ltF, nlt_48, nlt_48F, neq_48, neq_48F, n60_le, n60_leF, nle_60, nle_60F, n60_lt, n60_ltF, nlt_60, nlt_60F, neq_60, neq_60F, n63_le, n63_leF, nle_63, nle_63F, n63_lt, n63_ltF, nlt_63, nlt_63F, neq_63, neq_63F, n64_le, n64_leF, nle_64, nle_64F, n64_lt, n64_ltF, nlt_64, nlt_64F, neq_64, neq_64F, n72_le, n72_leF, nle_72, nle_72F, n72_lt, n72_ltF, nlt_72, nlt_72F, neq_72, neq_72F, n100_le, n100_leF, nle_100, nle_100F, n100_lt, n100_ltF, nlt_100, nlt_100F, neq_100, neq_100F, n144_le, n144_leF, nle_144, nle_144F, n144_lt, n144_ltF, nlt_144, nlt_144F, neq_144, neq_144F, n255_le, n255_leF, nle_255, nle_255F, n255_lt, n255_ltF, nlt_255, nlt_255F, neq_255, neq_255F, n256_le, n256_leF, nle_256, nle_256F, n256_lt, n256_ltF, nlt_256, nlt_256F, neq_256, neq_256F, n999_le, n999_leF, nle_999, nle_999F, n999_lt, n999_ltF, nlt_999, nlt_999F, neq_999, neq_999F, n1000_le, n1000_leF, nle_1000, nle_1000F, n1000_lt, n1000_ltF, nlt_1000, nlt_1000F, neq_1000, neq_1000F, n1728_le, n1728_leF, nle_1728, nle_1728F, n1728_lt, n1728_ltF, nlt_1728, nlt_1728F, neq_1728, neq_1728F, n5000_le, n5000_leF, nle_5000, nle_5000F, n5000_lt, n5000_ltF, nlt_5000, nlt_5000F, neq_5000, neq_5000F, n4_mul, n4_mulr, n12_mul, n48_mul, n_mod4, n_div4, n_mod4b, false_implies, true_implies, forall_const, not_true_eq_false, not_false_eq_true, true_and, and_true, implies_true, Aft_some, Aft_none, Aft_thr, nsum_nil, nsum_int, nsum_ref, nsum_float, nsum_long, nsum_double, Nat.reduceAdd, Nat.reduceLeDiff, true_and, and_true, and_self, Nat.le_refl, Nat.zero_le]
    · have hi := ih (j + 1) (va_up S b (updS (S b) l j)) (by omega) (by rw [up_at]; exact okU_updS (by omega) hk)
      rw [up_at, up_up] at hi
      unfold updF
      rw [if_neg h1, ← hi, sX2_updateList_9]
      simp (disch := first | assumption | exact cat_int | exact cat_ref | exact cat_float | exact cat_null | exact isB_2 | exact isB_154 | omega) only [eX2_updateList, sX2_updateList_0, sX2_updateList_1, sX2_updateList_4, sX2_updateList_5, sX2_updateList_6, sX2_updateList_7, sX2_updateList_8, sX2_updateList_10, sX2_updateList_12, sX2_updateList_15, sX2_updateList_16, sX2_updateList_19, sX2_updateList_20, sX2_updateList_23, sX2_updateList_26, sX2_updateList_27, sX2_updateList_28, sX2_updateList_29, sX2_updateList_32, sX2_updateList_35, sX2_updateList_39, sX2_updateList_42, sX2_updateList_45, rc_D, rd_D_5, rc_Prg, has_P, h1, h10, if_false, updateSlot_c, nT_le, nF_le, nT_lt, nF_lt, nT_eq, nF_eq, n_succ, n_add, n_neg, n_lt0, n_pred, n0_le, n0_leF, nle_0, nle_0F, n0_lt, n0_ltF, nlt_0, nlt_0F, neq_0, neq_0F, n1_le, n1_leF, nle_1, nle_1F, n1_lt, n1_ltF, nlt_1, nlt_1F, neq_1, neq_1F, n2_le, n2_leF, nle_2, nle_2F, n2_lt, n2_ltF, nlt_2, nlt_2F, neq_2, neq_2F, n3_le, n3_leF, nle_3, nle_3F, n3_lt, n3_ltF, nlt_3, nlt_3F, neq_3, neq_3F, n4_le, n4_leF, nle_4, nle_4F, n4_lt, n4_ltF, nlt_4, nlt_4F, neq_4, neq_4F, n5_le, n5_leF, nle_5, nle_5F, n5_lt, n5_ltF, nlt_5, nlt_5F, neq_5, neq_5F, n6_le, n6_leF, nle_6, nle_6F, n6_lt, n6_ltF, nlt_6, nlt_6F, neq_6, neq_6F, n7_le, n7_leF, nle_7, nle_7F, n7_lt, n7_ltF, nlt_7, nlt_7F, neq_7, neq_7F, n8_le, n8_leF, nle_8, nle_8F, n8_lt, n8_ltF, nlt_8, nlt_8F, neq_8, neq_8F, n9_le, n9_leF, nle_9, nle_9F, n9_lt, n9_ltF, nlt_9, nlt_9F, neq_9, neq_9F, n10_le, n10_leF, nle_10, nle_10F, n10_lt, n10_ltF, nlt_10, nlt_10F, neq_10, neq_10F, n11_le, n11_leF, nle_11, nle_11F, n11_lt, n11_ltF, nlt_11, nlt_11F, neq_11, neq_11F, n12_le, n12_leF, nle_12, nle_12F, n12_lt, n12_ltF, nlt_12, nlt_12F, neq_12, neq_12F, n19_le, n19_leF, nle_19, nle_19F, n19_lt, n19_ltF, nlt_19, nlt_19F, neq_19, neq_19F, n20_le, n20_leF, nle_20, nle_20F, n20_lt, n20_ltF, nlt_20, nlt_20F, neq_20, neq_20F, n30_le, n30_leF, nle_30, nle_30F, n30_lt, n30_ltF, nlt_30, nlt_30F, neq_30, neq_30F, n36_le, n36_leF, nle_36, nle_36F, n36_lt, n36_ltF, nlt_36, nlt_36F, neq_36, neq_36F, n48_le, n48_leF, nle_48, nle_48F, n48_lt, n48_ltF, nlt_48, nlt_48F, neq_48, neq_48F, n60_le, n60_leF, nle_60, nle_60F, n60_lt, n60_ltF, nlt_60, nlt_60F, neq_60, neq_60F, n63_le, n63_leF, nle_63, nle_63F, n63_lt, n63_ltF, nlt_63, nlt_63F, neq_63, neq_63F, n64_le, n64_leF, nle_64, nle_64F, n64_lt, n64_ltF, nlt_64, nlt_64F, neq_64, neq_64F, n72_le, n72_leF, nle_72, nle_72F, n72_lt, n72_ltF, nlt_72, nlt_72F, neq_72, neq_72F, n100_le, n100_leF, nle_100, nle_100F, n100_lt, n100_ltF, nlt_100, nlt_100F, neq_100, neq_100F, n144_le, n144_leF, nle_144, nle_144F, n144_lt, n144_ltF, nlt_144, nlt_144F, neq_144, neq_144F, n255_le, n255_leF, nle_255, nle_255F, n255_lt, n255_ltF, nlt_255, nlt_255F, neq_255, neq_255F, n256_le, n256_leF, nle_256, nle_256F, n256_lt, n256_ltF, nlt_256, nlt_256F, neq_256, neq_256F, n999_le, n999_leF, nle_999, nle_999F, n999_lt, n999_ltF, nlt_999, nlt_999F, neq_999, neq_999F, n1000_le, n1000_leF, nle_1000, nle_1000F, n1000_lt, n1000_ltF, nlt_1000, nlt_1000F, neq_1000, neq_1000F, n1728_le, n1728_leF, nle_1728, nle_1728F, n1728_lt, n1728_ltF, nlt_1728, nlt_1728F, neq_1728, neq_1728F, n5000_le, n5000_leF, nle_5000, nle_5000F, n5000_lt, n5000_ltF, nlt_5000, nlt_5000F, neq_5000, neq_5000F, n4_mul, n4_mulr, n12_mul, n48_mul, n_mod4, n_div4, n_mod4b, false_implies, true_implies, forall_const, not_true_eq_false, not_false_eq_true, true_and, and_true, implies_true, Aft_some, Aft_none, Aft_thr, nsum_nil, nsum_int, nsum_ref, nsum_float, nsum_long, nsum_double, Nat.reduceAdd, Nat.reduceLeDiff, true_and, and_true, and_self, Nat.le_refl, Nat.zero_le]
theorem updateList_c (hb : isB b) (hl : l < 3) (hk : okU (S b) l) : Call kX2_updateList [.ref b, .int (Int32.ofNat l)] (H z S M) Q ↔ Q (.inl (some (.int (updF l 48 0 (S b) 8 0 0 0)))) (H z (va_up S b (emptyP (updF l 48 0 (S b)))) M) := by
  have hi := upd_loop (z := z) (M := M) (Q := Q) (bc := 0) (bs := 0) hb hl (Int32.ofNat l) 48 0 S (by omega) hk
  have h0 : Int32.ofNat 0 = 0 := rfl
  rw [h0] at hi
  simp (disch := first | assumption | exact cat_int | exact cat_ref | exact cat_float | exact cat_null | exact isB_2 | exact isB_154 | omega) only [eX2_updateList, sX2_updateList_0, sX2_updateList_1, sX2_updateList_4, sX2_updateList_5, sX2_updateList_6, sX2_updateList_7, sX2_updateList_8, sX2_updateList_10, sX2_updateList_12, sX2_updateList_15, sX2_updateList_16, sX2_updateList_19, sX2_updateList_20, sX2_updateList_23, sX2_updateList_26, sX2_updateList_27, sX2_updateList_28, sX2_updateList_29, sX2_updateList_32, sX2_updateList_35, sX2_updateList_39, sX2_updateList_42, sX2_updateList_45, rd_D_6, rd_Lists, false_implies, true_implies, forall_const, not_true_eq_false, not_false_eq_true, true_and, and_true, implies_true, Aft_some, Aft_none, Aft_thr, nsum_nil, nsum_int, nsum_ref, nsum_float, nsum_long, nsum_double, Nat.reduceAdd, Nat.reduceLeDiff, true_and, and_true, and_self, Nat.le_refl, Nat.zero_le, hi]
  simp (disch := first | assumption | exact cat_int | exact cat_ref | exact cat_float | exact cat_null | exact isB_2 | exact isB_154 | omega) only [eX2_updateList, sX2_updateList_0, sX2_updateList_1, sX2_updateList_4, sX2_updateList_5, sX2_updateList_6, sX2_updateList_7, sX2_updateList_8, sX2_updateList_10, sX2_updateList_12, sX2_updateList_15, sX2_updateList_16, sX2_updateList_19, sX2_updateList_20, sX2_updateList_23, sX2_updateList_26, sX2_updateList_27, sX2_updateList_28, sX2_updateList_29, sX2_updateList_32, sX2_updateList_35, sX2_updateList_38, sX2_updateList_39, sX2_updateList_42, sX2_updateList_45, rd_D_5, rc_Prg, empty_P, up_at, up_up, false_implies, true_implies, forall_const, not_true_eq_false, not_false_eq_true, true_and, and_true, implies_true, Aft_some, Aft_none, Aft_thr, nsum_nil, nsum_int, nsum_ref, nsum_float, nsum_long, nsum_double, Nat.reduceAdd, Nat.reduceLeDiff, true_and, and_true, and_self, Nat.le_refl, Nat.zero_le]
end DESK
