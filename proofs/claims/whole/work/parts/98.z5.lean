/-! the law's walk from its first instruction -/
section BEG
set_option maxRecDepth 100000 in
theorem law_start {L : Nat} {xs : Nat → Int32} (hL : L ≤ 3584) : Go kL_law 0 (iniL kL_law [.ref 0]) [] 603072 7215210 (hp0 L xs) (fun o _ => o = .inl (some (.int 1))) := by
  have ei : iniL kL_law [.ref 0] = [.ref 0, .null, .null, .null, .null, .null, .null, .null, .null] := rfl
  have h0 : Int32.ofNat 0 = 0 := rfl
  have lp := law_loop 512 0 0 602731 7206382 (L, xs, 0, 0) S0 M0 A0 .null .null .null (by show L < _; omega) (by omega) (by show L ≤ _; omega) (by omega) (by omega) rfl rfl rel_0 inv_0 (by omega)
  rw [h0, ← ini_H] at lp
  have eh : hp0 L xs = hl (fun _ => .inl (0, L, .inl xs)) 0 [] := by
    refine Prod.ext rfl (funext fun x => ?_)
    show _ = (if 0 < x then (match ([] : List va_E)[x - 0 - 1]? with | some e => e | none => (.inl (0, L, .inl xs) : va_E)) else (.inl (0, L, .inl xs) : va_E))
    rw [List.getElem?_nil]
    split <;> rfl
  rw [ei, eh]
  generalize (fun _ => (.inl (0, L, .inl xs) : va_E)) = sc at lp ⊢
  have e1 : (hl sc 0 []).1 + 1 = 0 + 1 := rfl
  have h7 := fun Q => x7_init (f := sc) (n := 0) (Q := Q)
  have e2 : (hl sc 0 (lbL 0)).1 + 1 = 306 := by rw [hl_1, lbL_len]
  have h8 : ∀ Q, Call kX8_init [.ref 306] (hl sc 0 (lbL 0 ++ [.inr (8, dflt 8)])) Q ↔ Q (.inl none) (hl sc 0 (lbL 0 ++ mdL 305)) := fun Q => by
    have h := x8_init (f := (hl sc 0 (lbL 0)).2) (n := 0 + (lbL 0).length) (Q := Q)
    rw [hl_cat, hl_cat, lbL_len] at h
    exact h
  have e3 : (hl sc 0 (lbL 0 ++ mdL 305)).1 + 1 = 340 := by rw [hl_1, List.length_append, lbL_len]; rfl
  have e4 : (hl sc 0 (lbL 0 ++ mdL 305 ++ [.inl (3, 1, .inr (.inl fun _ => 0))])).1 + 1 = 341 := by rw [hl_1, List.length_append, List.length_append, lbL_len]; rfl
  have e5 : lbL 0 ++ mdL 305 ++ [(.inl (3, 1, .inr (.inl fun _ => 0)) : va_E)] ++ [(.inl (4, 1, .inr (.inr (.inr (.inl fun _ => 0)))) : va_E)] = iniC := by
    rw [List.append_assoc]
    rfl
  rw [sL_law_0, hl_add, e1, List.nil_append, sL_law_3, sL_law_4]
  refine ⟨⟨by omega, by omega⟩, ⟨by omega, by omega, Nat.le_of_ble_eq_true rfl⟩, ?_⟩
  refine (h7 _).mpr ?_
  rw [Aft_none, sL_law_7 rfl, sL_law_8, hl_add, e2, sL_law_11, sL_law_12]
  refine ⟨⟨by omega, by omega⟩, ⟨by omega, by omega, Nat.le_of_ble_eq_true rfl⟩, ?_⟩
  refine (h8 _).mpr ?_
  rw [Aft_none, sL_law_15 rfl, sL_law_16, sL_law_17, hl_add, e3, sL_law_19 rfl, sL_law_20, sL_law_21, hl_add, e4, e5, sL_law_23 rfl, sL_law_25, sL_law_26 rfl]
  exact ⟨⟨by omega, by omega⟩, ⟨by omega, by omega⟩, lp⟩
end BEG
