/-! what holds at the law's start, and the law's end out of a run of the small machine -/
section START
variable {p : Program} {l : Launch} {e : Env} {s : State} {m : MethodId} {below : List Frame} {meth : Method} {c : Code} {b L : Nat} {xs : Nat → Int32}
theorem at_TW (hts : ∀ w ∈ lw_tbl, w.before #[Value.ref b] s = true) : ∀ w ∈ TW, w.before #[] s = true := fun w hw => word_at (State.WarmedH.refl s) (TW_good hw) (hts w (List.mem_filter.mp hw).1)
theorem at_TX (hts : ∀ w ∈ lw_tbl, w.before #[Value.ref b] s = true) : ∀ w ∈ TX, va_Nw w s := fun w hw => va_Nw.of (TX_tab hw) (hts w (List.mem_filter.mp hw).1)
theorem at_1 (hts : ∀ w ∈ lw_tbl, w.before #[Value.ref b] s = true) {i : Nat} {w : Cond} (h : tables_1[i]? = some w) : w.before #[Value.ref b] s = true := hts w (List.mem_append_right _ (List.mem_of_getElem? h))
theorem at_obj {C : String} (h : (Cond.arrayOver (.object C)).before #[Value.ref b] s = true) : ∃ cA : ClassId, ArrOfT s cA (.object C) ∧ va_RA s cA (.object C) := by
  obtain ⟨comp, cA, k, f1, -, f3, f4, f5⟩ := Cond.arrayOver_spec h
  exact ⟨cA, fun n z => ⟨fun k9 h9 => (by cases h9), k, f3, comp, f4⟩, k, comp, f3, f4, f1, f5⟩
theorem at_prim {ty : FieldType} (h : (Cond.arrayClass ty).before #[] s = true) : ∃ cA : ClassId, ArrOfT s cA ty ∧ s.vm.findClass ("[" ++ ty.toString) = some cA := by
  obtain ⟨cA, k, comp, f1, f2, f3⟩ := Cond.arrayClass_spec h
  exact ⟨cA, fun n z => ⟨fun k9 h9 => (by cases h9), k, f2, comp, f3⟩, f1⟩
set_option maxRecDepth 100000 in
theorem ov_5 : tables_1[40]? = some (Cond.arrayOver (.object RX5)) := rfl
set_option maxRecDepth 100000 in
theorem ov_1 : tables_1[79]? = some (Cond.arrayOver (.object RX1)) := rfl
set_option maxRecDepth 100000 in
theorem ov_3 : tables_1[81]? = some (Cond.arrayOver (.object RX3)) := rfl
set_option maxRecDepth 100000 in
theorem ov_0 : tables_1[102]? = some (Cond.arrayOver (.object RX0)) := rfl
theorem at_K (hts : ∀ w ∈ lw_tbl, w.before #[Value.ref b] s = true) : ∃ (D : va_G) (tA : Nat → ClassId), va_K D vw9 (tysOf tA) s := by
  have hTW := at_TW hts
  have h1 : ∀ ci : Nat, ∃ z : ClassId × (Nat → Nat), ci < 9 → u_Kn s (rF ci) (tF ci) (nF ci) z.1 z.2 := by
    intro ci
    by_cases h : ci < 9
    · have hw := atP_in (cls_tab ci h)
      obtain ⟨cC, iS, hk⟩ := u_known (ws := TW) (args := #[]) hTW (fun w hw2 => hw w (List.mem_append_left _ hw2)) (hTW _ (hw _ (List.mem_append_right _ List.mem_cons_self)))
      exact ⟨(cC, iS), fun _ => hk⟩
    · exact ⟨(0, fun _ => 0), fun h9 => absurd h9 h⟩
  have h2 : ∀ t : Nat, ∃ cA : ClassId, t < 9 → ArrOfT s cA (tagTy.getD t .int) ∧ va_RA s cA (tagTy.getD t .int) := by
    intro t
    rcases t with _ | _ | _ | _ | _ | _ | _ | _ | _ | t
    · obtain ⟨cA, a1, a2⟩ := at_prim (ty := .int) (hTW _ (atP_in arr_tab _ (by simp)))
      exact ⟨cA, fun _ => ⟨a1, a2⟩⟩
    · obtain ⟨cA, a1, a2⟩ := at_prim (ty := .float) (hTW _ (atP_in arr_tab _ (by simp)))
      exact ⟨cA, fun _ => ⟨a1, a2⟩⟩
    · obtain ⟨cA, a1, a2⟩ := at_prim (ty := .boolean) (hTW _ (atP_in arr_tab _ (by simp)))
      exact ⟨cA, fun _ => ⟨a1, a2⟩⟩
    · obtain ⟨cA, a1, a2⟩ := at_prim (ty := .long) (hTW _ (atP_in arr_tab _ (by simp)))
      exact ⟨cA, fun _ => ⟨a1, a2⟩⟩
    · obtain ⟨cA, a1, a2⟩ := at_prim (ty := .double) (hTW _ (atP_in arr_tab _ (by simp)))
      exact ⟨cA, fun _ => ⟨a1, a2⟩⟩
    · obtain ⟨cA, a⟩ := at_obj (at_1 hts ov_5)
      exact ⟨cA, fun _ => a⟩
    · obtain ⟨cA, a⟩ := at_obj (at_1 hts ov_1)
      exact ⟨cA, fun _ => a⟩
    · obtain ⟨cA, a⟩ := at_obj (at_1 hts ov_3)
      exact ⟨cA, fun _ => a⟩
    · obtain ⟨cA, a⟩ := at_obj (at_1 hts ov_0)
      exact ⟨cA, fun _ => a⟩
    · exact ⟨0, fun h9 => absurd h9 (by omega)⟩
  obtain ⟨f, hf⟩ := Classical.skolem.mp h1
  obtain ⟨tA, hA⟩ := Classical.skolem.mp h2
  refine ⟨(fun ci => (f ci).1, fun ci => (f ci).2), tA, fun ci q hq => ?_, fun k q hk => ?_⟩
  · by_cases h : ci < 9
    · rw [cls_row ci h] at hq
      cases hq
      exact hf ci h
    · rw [List.getElem?_eq_none (by show 9 ≤ ci; omega)] at hq
      cases hq
  · rcases k with _ | _ | _ | _ | _ | _ | _ | _ | _ | k
    · cases hk; exact hA 0 (by omega)
    · cases hk; exact hA 1 (by omega)
    · cases hk; exact hA 2 (by omega)
    · cases hk; exact hA 3 (by omega)
    · cases hk; exact hA 4 (by omega)
    · cases hk; exact hA 5 (by omega)
    · cases hk; exact hA 6 (by omega)
    · cases hk; exact hA 7 (by omega)
    · cases hk; exact hA 8 (by omega)
    · rw [List.getElem?_eq_none (by show 9 ≤ k + 9; omega)] at hk
      cases hk
theorem nar_tab : ∀ e, e < 6 → ∀ e', e' < 6 → e ≠ e' → Cond.not (.castable (excN e) (excN e')) ∈ flatC (Jvm.Cond.and given_1 narrow_1) := by decide +kernel
set_option maxRecDepth 100000 in
theorem zs_0 : tables_1[10]? = some (Cond.initialized Bundle.tN) := rfl
set_option maxRecDepth 100000 in
theorem zs_1 : tables_1[382]? = some (Cond.laysStatic Bundle.tN "UNASSIGNED_STACK" Bundle.steD) := rfl
set_option maxRecDepth 100000 in
theorem zs_2 : tables_1[384]? = some (Cond.laysStatic Bundle.tN "SUPPRESSED_SENTINEL" Bundle.listD) := rfl
theorem zs_3 : Cond.isRef (.static Bundle.tN "UNASSIGNED_STACK" Bundle.steD) ∈ flatC (Jvm.Cond.and given_1 narrow_1) := by decide +kernel
theorem zs_4 : Cond.isRef (.static Bundle.tN "SUPPRESSED_SENTINEL" Bundle.listD) ∈ flatC (Jvm.Cond.and given_1 narrow_1) := by decide +kernel
theorem at_SF (hts : ∀ w ∈ lw_tbl, w.before #[Value.ref b] s = true) (hn : (Jvm.Cond.and given_1 narrow_1).before #[Value.ref b] s = true) : ∃ (D : va_G) (tA : Nat → ClassId), SF D tA s ∧ ZF (loA s.heap.size) s s.heap := by
  have hs := flat_of_before _ hn
  have hTW := at_TW hts
  obtain ⟨D, tA, hK⟩ := at_K hts
  refine ⟨D, tA, ⟨hK, hTW, at_TX hts, fun C hC => ?_, fun q hq => ?_, fun e he e' he' hne => va_Nc.of (hs _ (nar_tab e he e' he' hne)), fun q hq => word_at (State.WarmedH.refl s) (Or.inl rfl) (hts _ (List.mem_append_left _ (List.mem_map.mpr ⟨q, hq, rfl⟩)))⟩, ?_, ?_⟩
  · simp only [List.mem_cons, List.not_mem_nil, or_false] at hC
    rcases hC with rfl | rfl | rfl | rfl
    · exact va_AO.of (at_1 hts ov_5)
    · exact va_AO.of (at_1 hts ov_1)
    · exact va_AO.of (at_1 hts ov_3)
    · exact va_AO.of (at_1 hts ov_0)
  · obtain ⟨t1, t2⟩ := str_tab
    obtain ⟨i, hi⟩ := zip_in t1 hq
    have hw := at_1 hts (t2 _ hi)
    obtain ⟨cC, kC, hfc, -⟩ := Cond.instantiable_spec (hTW _ (atP_in (cls_tab 7 (by omega)) _ (List.mem_append_right _ List.mem_cons_self)))
    obtain ⟨k, cf, i2, a, -, -, -, -, -, hev⟩ := Cond.stringRef_spec hfc hw
    exact ⟨a, vk_R.of hw hev⟩
  · exact vx_Zqof (at_1 hts zs_1) (at_1 hts zs_0) (hs _ zs_3) (fun a h h2 => absurd h (Nat.not_lt.mpr h2))
  · exact vx_Zqof (at_1 hts zs_2) (at_1 hts zs_0) (hs _ zs_4) (fun a h h2 => absurd h (Nat.not_lt.mpr h2))
end START
