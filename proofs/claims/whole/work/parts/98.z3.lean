/-! the law's loop -/
section LOOP
variable {S : Nat → St} {M A : St}
theorem rd_len {z : Ev} {S : Nat → St} {M : St} {K : Int32 → Prop} : RdLen (H z S M) 0 K ↔ K (Int32.ofNat z.1) := by
  have e : (H z S M).2 0 = .inl (0, z.1, .inl z.2.1) := (H_E (by omega)).trans rfl
  unfold RdLen
  rw [e, H_1]
  show ((0 ≤ 8 ∧ (0 = 0 → 0 = 0) ∧ 0 ≤ 341) ∧ K (Int32.ofNat z.1)) ↔ _
  exact ⟨fun q => q.2, fun q => ⟨⟨by decide, fun _ => rfl, by decide⟩, q⟩⟩
theorem round_ok {z : Ev} {B i bc bs : Nat} {l6 l7 l8 : Value} (hz : i + 7 ≤ z.1) (hz2 : z.1 ≤ 4000) (hbc : 6 ≤ bc) (hbs : 36 ≤ bs) (h2 : S 2 = A) (h154 : S 154 = A) (hR : Rel A M) (hI : Inv A B) (hB : B + 90 < 1000000) : CaseOK 28 z S M B i l6 l7 l8 bc bs := by
  have hlt : ¬ Int32.ofNat z.1 - 7 < Int32.ofNat i := by
    have q : (Int32.ofNat z.1 - Int32.ofNat 7 < Int32.ofNat i) = (z.1 < 7 + i) := fd_eq (by omega) (by omega) (by omega)
    exact fun h => absurd (q.mp h) (by omega)
  obtain ⟨k, hk, hke⟩ := and63 (z.2.1 i)
  have step : ∀ (T : Nat), (∀ (a0 a1 a2 a3 a4 a5 a6 a7 a8 : Value) (st : List Value) (bc bs : Nat) (hp : Hp) (Q : Out → Hp → Prop), Go kL_law 45 [a0, a1, a2, a3, a4, a5, a6, a7, a8] (.int (Int32.ofNat k) :: st) bc bs hp Q ↔ Go kL_law T [a0, a1, a2, a3, a4, a5, a6, a7, a8] st bc bs hp Q) → CaseOK T z S M B i l6 l7 l8 bc bs → CaseOK 28 z S M B i l6 l7 l8 bc bs := by
    intro T hsw hc
    obtain ⟨z2, S2, M2, A2, w6, w7, w8, bc2, bs2, c1, c2, c3, c4, c5, c6, c7, c8, c9⟩ := hc
    refine ⟨z2, S2, M2, A2, w6, w7, w8, bc2, bs2, c1, c2, c3, c4, c5, c6, c7, c8, fun Q => ?_⟩
    rw [← c9 Q, sL_law_28]
    simp (disch := first | assumption | exact cat_int | exact cat_ref | exact cat_float | exact cat_null | exact isB_2 | exact isB_154 | omega) only [sL_law_30, sL_law_31, sL_law_32, sL_law_34, sL_law_35, sL_law_38, sL_law_39, sL_law_41, sL_law_42, sL_law_44, rd_len, rd_s, hlt, hke, hsw, false_implies, true_implies, forall_const, not_true_eq_false, not_false_eq_true, true_and, and_true, implies_true, Aft_some, Aft_none, Aft_thr]
  have hb1 : z.1 ≤ 65536 := by omega
  have hall : k = 0 ∨ k = 1 ∨ k = 2 ∨ k = 3 ∨ k = 4 ∨ k = 5 ∨ k = 6 ∨ k = 7 ∨ k = 8 ∨ k = 9 ∨ k = 10 ∨ k = 11 ∨ k = 12 ∨ k = 13 ∨ k = 14 ∨ k = 15 ∨ k = 16 ∨ k = 17 ∨ k = 18 ∨ k = 19 ∨ k = 20 ∨ k = 21 ∨ k = 22 ∨ k = 23 ∨ k = 24 ∨ k = 25 ∨ k = 26 ∨ k = 27 ∨ k = 28 ∨ k = 29 ∨ k = 30 ∨ k = 31 ∨ k = 32 ∨ k = 33 ∨ k = 34 ∨ k = 35 ∨ k = 36 ∨ k = 37 ∨ k = 38 ∨ k = 39 ∨ k = 40 ∨ k = 41 ∨ k = 42 ∨ k = 43 ∨ k = 44 ∨ k = 45 ∨ k = 46 ∨ k = 47 ∨ k = 48 ∨ k = 49 ∨ k = 50 ∨ k = 51 ∨ k = 52 ∨ k = 53 ∨ k = 54 ∨ k = 55 ∨ k = 56 ∨ k = 57 ∨ k = 58 ∨ k = 59 ∨ k = 60 ∨ k = 61 ∨ k = 62 ∨ k = 63 := by omega
  rcases hall with rfl | rfl | rfl | rfl | rfl | rfl | rfl | rfl | rfl | rfl | rfl | rfl | rfl | rfl | rfl | rfl | rfl | rfl | rfl | rfl | rfl | rfl | rfl | rfl | rfl | rfl | rfl | rfl | rfl | rfl | rfl | rfl | rfl | rfl | rfl | rfl | rfl | rfl | rfl | rfl | rfl | rfl | rfl | rfl | rfl | rfl | rfl | rfl | rfl | rfl | rfl | rfl | rfl | rfl | rfl | rfl | rfl | rfl | rfl | rfl | rfl | rfl | rfl | rfl
  · exact step 236 (fun _ _ _ _ _ _ _ _ _ _ _ _ _ _ => sw_0) (case_addLamp hz hb1 hbc hbs h2 h154 hR hI hB)
  · exact step 280 (fun _ _ _ _ _ _ _ _ _ _ _ _ _ _ => sw_1) (case_patch hz hb1 hbc hbs h2 h154 hR hI hB)
  · exact step 348 (fun _ _ _ _ _ _ _ _ _ _ _ _ _ _ => sw_2) (case_addGroup hz hb1 hbc hbs h2 h154 hR hI hB)
  · exact step 392 (fun _ _ _ _ _ _ _ _ _ _ _ _ _ _ => sw_3) (case_addToGroup hz hb1 hbc hbs h2 h154 hR hI hB)
  · exact step 460 (fun _ _ _ _ _ _ _ _ _ _ _ _ _ _ => sw_4) (case_addPalette hz hb1 hbc hbs h2 h154 hR hI hB)
  · exact step 528 (fun _ _ _ _ _ _ _ _ _ _ _ _ _ _ => sw_5) (case_setPalette hz hb1 hbc hbs h2 h154 hR hI hB)
  · exact step 596 (fun _ _ _ _ _ _ _ _ _ _ _ _ _ _ => sw_6) (case_set hz hb1 hbc hbs h2 h154 hR hI hB)
  · exact step 676 (fun _ _ _ _ _ _ _ _ _ _ _ _ _ _ => sw_7) (case_point hz hb1 hbc hbs h2 h154 hR hI hB)
  · exact step 744 (fun _ _ _ _ _ _ _ _ _ _ _ _ _ _ => sw_8) (case_fan hz hb1 hbc hbs h2 h154 hR hI hB)
  · exact step 836 (fun _ _ _ _ _ _ _ _ _ _ _ _ _ _ => sw_9) (case_knockOut hz hb1 hbc hbs h2 h154 hR hI hB)
  · exact step 904 (fun _ _ _ _ _ _ _ _ _ _ _ _ _ _ => sw_10) (case_clear hz hb1 hbc hbs h2 h154 hR hI hB)
  · exact step 917 (fun _ _ _ _ _ _ _ _ _ _ _ _ _ _ => sw_11) (case_record hz hb1 hbc hbs h2 h154 hR hI hB)
  · exact step 973 (fun _ _ _ _ _ _ _ _ _ _ _ _ _ _ => sw_12) (case_setTimes hz hb1 hbc hbs h2 h154 hR hI hB)
  · exact step 1065 (fun _ _ _ _ _ _ _ _ _ _ _ _ _ _ => sw_13) (case_setFollow hz hb1 hbc hbs h2 h154 hR hI hB)
  · exact step 1145 (fun _ _ _ _ _ _ _ _ _ _ _ _ _ _ => sw_14) (case_setLink hz hb1 hbc hbs h2 h154 hR hI hB)
  · exact step 1225 (fun _ _ _ _ _ _ _ _ _ _ _ _ _ _ => sw_15) (case_setCode hz hb1 hbc hbs h2 h154 hR hI hB)
  · exact step 1305 (fun _ _ _ _ _ _ _ _ _ _ _ _ _ _ => sw_16) (case_setAssert hz hb1 hbc hbs h2 h154 hR hI hB)
  · exact step 1408 (fun _ _ _ _ _ _ _ _ _ _ _ _ _ _ => sw_17) (case_setMaster hz hb1 hbc hbs h2 h154 hR hI hB)
  · exact step 1476 (fun _ _ _ _ _ _ _ _ _ _ _ _ _ _ => sw_18) (case_setPriority hz hb1 hbc hbs h2 h154 hR hI hB)
  · exact step 1544 (fun _ _ _ _ _ _ _ _ _ _ _ _ _ _ => sw_19) (case_go hz hb1 hbc hbs h2 h154 hR hI hB)
  · exact step 1600 (fun _ _ _ _ _ _ _ _ _ _ _ _ _ _ => sw_20) (case_goTo hz hb1 hbc hbs h2 h154 hR hI hB)
  · exact step 1668 (fun _ _ _ _ _ _ _ _ _ _ _ _ _ _ => sw_21) (case_release hz hb1 hbc hbs h2 h154 hR hI hB)
  · exact step 1724 (fun _ _ _ _ _ _ _ _ _ _ _ _ _ _ => sw_22) (case_update hz hb1 hbc hbs h2 h154 hR hI hB)
  · exact step 1780 (fun _ _ _ _ _ _ _ _ _ _ _ _ _ _ => sw_23) (case_pass hz hb1 hbc hbs h2 h154 hR hI hB)
  · exact step 1836 (fun _ _ _ _ _ _ _ _ _ _ _ _ _ _ => sw_24) (case_code hz hb1 hbc hbs h2 h154 hR hI hB)
  · exact step 1892 (fun _ _ _ _ _ _ _ _ _ _ _ _ _ _ => sw_25) (case_addEffect hz hb1 hbc hbs h2 h154 hR hI hB)
  · exact step 2012 (fun _ _ _ _ _ _ _ _ _ _ _ _ _ _ => sw_26) (case_start hz hb1 hbc hbs h2 h154 hR hI hB)
  · exact step 2068 (fun _ _ _ _ _ _ _ _ _ _ _ _ _ _ => sw_27) (case_stop hz hb1 hbc hbs h2 h154 hR hI hB)
  · exact step 2124 (fun _ _ _ _ _ _ _ _ _ _ _ _ _ _ => sw_28) (case_output hz hb1 hbc hbs h2 h154 hR hI hB)
  · exact step 2192 (fun _ _ _ _ _ _ _ _ _ _ _ _ _ _ => sw_29) (case_outputBits hz hb1 hbc hbs h2 h154 hR hI hB)
  · exact step 2260 (fun _ _ _ _ _ _ _ _ _ _ _ _ _ _ => sw_30) (case_line hz hb1 hbc hbs h2 h154 hR hI hB)
  · exact step 2316 (fun _ _ _ _ _ _ _ _ _ _ _ _ _ _ => sw_31) (case_decides hz hb1 hbc hbs h2 h154 hR hI hB)
  · exact step 2384 (fun _ _ _ _ _ _ _ _ _ _ _ _ _ _ => sw_32) (case_valueIn hz hb1 hbc hbs h2 h154 hR hI hB)
  · exact step 2464 (fun _ _ _ _ _ _ _ _ _ _ _ _ _ _ => sw_33) (case_tracked hz hb1 hbc hbs h2 h154 hR hI hB)
  · exact step 2556 (fun _ _ _ _ _ _ _ _ _ _ _ _ _ _ => sw_34) (case_source hz hb1 hbc hbs h2 h154 hR hI hB)
  · exact step 2648 (fun _ _ _ _ _ _ _ _ _ _ _ _ _ _ => sw_35) (case_paletteOf hz hb1 hbc hbs h2 h154 hR hI hB)
  · exact step 2740 (fun _ _ _ _ _ _ _ _ _ _ _ _ _ _ => sw_36) (case_cueOf hz hb1 hbc hbs h2 h154 hR hI hB)
  · exact step 2796 (fun _ _ _ _ _ _ _ _ _ _ _ _ _ _ => sw_37) (case_cues hz hb1 hbc hbs h2 h154 hR hI hB)
  · exact step 2852 (fun _ _ _ _ _ _ _ _ _ _ _ _ _ _ => sw_38) (case_isFading hz hb1 hbc hbs h2 h154 hR hI hB)
  · exact step 2915 (fun _ _ _ _ _ _ _ _ _ _ _ _ _ _ => sw_39) (case_time hz hb1 hbc hbs h2 h154 hR hI hB)
  · exact step 2928 (fun _ _ _ _ _ _ _ _ _ _ _ _ _ _ => sw_40) (case_sum hz hb1 hbc hbs h2 h154 hR hI hB)
  · exact step 2942 (fun _ _ _ _ _ _ _ _ _ _ _ _ _ _ => sw_41) (case_litShare hz hb1 hbc hbs h2 h154 hR hI hB)
  · exact step 3008 (fun _ _ _ _ _ _ _ _ _ _ _ _ _ _ => sw_42) (case_meanStored hz hb1 hbc hbs h2 h154 hR hI hB)
  · exact step 3073 (fun _ _ _ _ _ _ _ _ _ _ _ _ _ _ => sw_43) (case_isSound hz hb1 hbc hbs h2 h154 hR hI hB)
  · exact step 3086 (fun _ _ _ _ _ _ _ _ _ _ _ _ _ _ => sw_44) ⟨z, S, M, A, l6, l7, l8, bc, bs, rfl, rfl, h2, h154, hR, hI.mono (by omega), by omega, by omega, fun Q => Iff.rfl⟩
  · exact step 3086 (fun _ _ _ _ _ _ _ _ _ _ _ _ _ _ => sw_45) ⟨z, S, M, A, l6, l7, l8, bc, bs, rfl, rfl, h2, h154, hR, hI.mono (by omega), by omega, by omega, fun Q => Iff.rfl⟩
  · exact step 3086 (fun _ _ _ _ _ _ _ _ _ _ _ _ _ _ => sw_46) ⟨z, S, M, A, l6, l7, l8, bc, bs, rfl, rfl, h2, h154, hR, hI.mono (by omega), by omega, by omega, fun Q => Iff.rfl⟩
  · exact step 3086 (fun _ _ _ _ _ _ _ _ _ _ _ _ _ _ => sw_47) ⟨z, S, M, A, l6, l7, l8, bc, bs, rfl, rfl, h2, h154, hR, hI.mono (by omega), by omega, by omega, fun Q => Iff.rfl⟩
  · exact step 3086 (fun _ _ _ _ _ _ _ _ _ _ _ _ _ _ => sw_48) ⟨z, S, M, A, l6, l7, l8, bc, bs, rfl, rfl, h2, h154, hR, hI.mono (by omega), by omega, by omega, fun Q => Iff.rfl⟩
  · exact step 3086 (fun _ _ _ _ _ _ _ _ _ _ _ _ _ _ => sw_49) ⟨z, S, M, A, l6, l7, l8, bc, bs, rfl, rfl, h2, h154, hR, hI.mono (by omega), by omega, by omega, fun Q => Iff.rfl⟩
  · exact step 3086 (fun _ _ _ _ _ _ _ _ _ _ _ _ _ _ => sw_50) ⟨z, S, M, A, l6, l7, l8, bc, bs, rfl, rfl, h2, h154, hR, hI.mono (by omega), by omega, by omega, fun Q => Iff.rfl⟩
  · exact step 3086 (fun _ _ _ _ _ _ _ _ _ _ _ _ _ _ => sw_51) ⟨z, S, M, A, l6, l7, l8, bc, bs, rfl, rfl, h2, h154, hR, hI.mono (by omega), by omega, by omega, fun Q => Iff.rfl⟩
  · exact step 3086 (fun _ _ _ _ _ _ _ _ _ _ _ _ _ _ => sw_52) ⟨z, S, M, A, l6, l7, l8, bc, bs, rfl, rfl, h2, h154, hR, hI.mono (by omega), by omega, by omega, fun Q => Iff.rfl⟩
  · exact step 3086 (fun _ _ _ _ _ _ _ _ _ _ _ _ _ _ => sw_53) ⟨z, S, M, A, l6, l7, l8, bc, bs, rfl, rfl, h2, h154, hR, hI.mono (by omega), by omega, by omega, fun Q => Iff.rfl⟩
  · exact step 3086 (fun _ _ _ _ _ _ _ _ _ _ _ _ _ _ => sw_54) ⟨z, S, M, A, l6, l7, l8, bc, bs, rfl, rfl, h2, h154, hR, hI.mono (by omega), by omega, by omega, fun Q => Iff.rfl⟩
  · exact step 3086 (fun _ _ _ _ _ _ _ _ _ _ _ _ _ _ => sw_55) ⟨z, S, M, A, l6, l7, l8, bc, bs, rfl, rfl, h2, h154, hR, hI.mono (by omega), by omega, by omega, fun Q => Iff.rfl⟩
  · exact step 3086 (fun _ _ _ _ _ _ _ _ _ _ _ _ _ _ => sw_56) ⟨z, S, M, A, l6, l7, l8, bc, bs, rfl, rfl, h2, h154, hR, hI.mono (by omega), by omega, by omega, fun Q => Iff.rfl⟩
  · exact step 3086 (fun _ _ _ _ _ _ _ _ _ _ _ _ _ _ => sw_57) ⟨z, S, M, A, l6, l7, l8, bc, bs, rfl, rfl, h2, h154, hR, hI.mono (by omega), by omega, by omega, fun Q => Iff.rfl⟩
  · exact step 3086 (fun _ _ _ _ _ _ _ _ _ _ _ _ _ _ => sw_58) ⟨z, S, M, A, l6, l7, l8, bc, bs, rfl, rfl, h2, h154, hR, hI.mono (by omega), by omega, by omega, fun Q => Iff.rfl⟩
  · exact step 3086 (fun _ _ _ _ _ _ _ _ _ _ _ _ _ _ => sw_59) ⟨z, S, M, A, l6, l7, l8, bc, bs, rfl, rfl, h2, h154, hR, hI.mono (by omega), by omega, by omega, fun Q => Iff.rfl⟩
  · exact step 3086 (fun _ _ _ _ _ _ _ _ _ _ _ _ _ _ => sw_60) ⟨z, S, M, A, l6, l7, l8, bc, bs, rfl, rfl, h2, h154, hR, hI.mono (by omega), by omega, by omega, fun Q => Iff.rfl⟩
  · exact step 3086 (fun _ _ _ _ _ _ _ _ _ _ _ _ _ _ => sw_61) ⟨z, S, M, A, l6, l7, l8, bc, bs, rfl, rfl, h2, h154, hR, hI.mono (by omega), by omega, by omega, fun Q => Iff.rfl⟩
  · exact step 3086 (fun _ _ _ _ _ _ _ _ _ _ _ _ _ _ => sw_62) ⟨z, S, M, A, l6, l7, l8, bc, bs, rfl, rfl, h2, h154, hR, hI.mono (by omega), by omega, by omega, fun Q => Iff.rfl⟩
  · exact step 3086 (fun _ _ _ _ _ _ _ _ _ _ _ _ _ _ => sw_63) ⟨z, S, M, A, l6, l7, l8, bc, bs, rfl, rfl, h2, h154, hR, hI.mono (by omega), by omega, by omega, fun Q => Iff.rfl⟩
theorem law_loop : ∀ (n i B bc bs : Nat) (z : Ev) (S : Nat → St) (M A : St) (l6 l7 l8 : Value), z.1 < i + 7 * (n + 1) → i ≤ z.1 → z.1 ≤ 4000 → 6 * n ≤ bc → 36 * n ≤ bs → S 2 = A → S 154 = A → Rel A M → Inv A B → B + 90 * (n + 1) < 1000000 →
    Go kL_law 28 [.ref 0, .ref 1, .ref 306, .ref 340, .ref 341, .int (Int32.ofNat i), l6, l7, l8] [] bc bs (H z S M) (fun o _ => o = .inl (some (.int 1))) := by
  have o1 : outI kL_law 1 = true := rfl
  intro n
  induction n with
  | zero =>
    intro i B bc bs z S M A l6 l7 l8 hn hi hz hbc hbs h2 h154 hR hI hB
    have hlt : Int32.ofNat z.1 - 7 < Int32.ofNat i := by
      have q : (Int32.ofNat z.1 - Int32.ofNat 7 < Int32.ofNat i) = (z.1 < 7 + i) := fd_eq (by omega) (by omega) (by omega)
      exact q.mpr (by omega)
    rw [sL_law_28]
    simp (disch := first | assumption | exact cat_int | exact cat_ref | exact cat_float | exact cat_null | exact isB_2 | exact isB_154 | omega) only [sL_law_30, sL_law_31, sL_law_32, sL_law_34, sL_law_35, sL_law_3092, sL_law_3093, rd_len, hlt, o1, false_implies, true_implies, forall_const, not_true_eq_false, not_false_eq_true, true_and, and_true, implies_true, Aft_some, Aft_none, Aft_thr]
  | succ n ih =>
    intro i B bc bs z S M A l6 l7 l8 hn hi hz hbc hbs h2 h154 hR hI hB
    by_cases hc : i + 7 ≤ z.1
    · obtain ⟨z2, S2, M2, A2, w6, w7, w8, bc2, bs2, c1, c2, c3, c4, c5, c6, c7, c8, c9⟩ := round_ok (l6 := l6) (l7 := l7) (l8 := l8) (bc := bc) (bs := bs) hc hz (by omega) (by omega) h2 h154 hR hI (by omega)
      rw [c9, sL_law_3086 (x := Int32.ofNat i) rfl, sL_law_3089]
      rw [show Int32.ofNat i + 7 = Int32.ofNat (i + 7) from n_add (b := 7)]
      exact ih (i + 7) (B + 90) bc2 bs2 z2 S2 M2 A2 w6 w7 w8 (by omega) (by omega) (by omega) (by omega) (by omega) c3 c4 c5 c6 (by omega)
    · have hlt : Int32.ofNat z.1 - 7 < Int32.ofNat i := by
        have q : (Int32.ofNat z.1 - Int32.ofNat 7 < Int32.ofNat i) = (z.1 < 7 + i) := fd_eq (by omega) (by omega) (by omega)
        exact q.mpr (by omega)
      rw [sL_law_28]
      simp (disch := first | assumption | exact cat_int | exact cat_ref | exact cat_float | exact cat_null | exact isB_2 | exact isB_154 | omega) only [sL_law_30, sL_law_31, sL_law_32, sL_law_34, sL_law_35, sL_law_3092, sL_law_3093, rd_len, hlt, o1, false_implies, true_implies, forall_const, not_true_eq_false, not_false_eq_true, true_and, and_true, implies_true, Aft_some, Aft_none, Aft_thr]
end LOOP
