/-! the heap that both sides begin with, as one picture; what holds of the first state -/
section INI
theorem rg_at {F : Nat → va_E} {m o : Nat} (h : o < m) : ((List.range m).map F)[o]? = some (F o) := by
  rw [List.getElem?_map, List.getElem?_range h]
  rfl
theorem rg_len {F : Nat → va_E} {m : Nat} : ((List.range m).map F).length = m := by rw [List.length_map, List.length_range]
def iniC : List va_E := lbL 0 ++ mdL 305 ++ [.inl (3, 1, .inr (.inl fun _ => 0)), .inl (4, 1, .inr (.inr (.inr (.inl fun _ => 0))))]
theorem iniC_eq : iniC = (.inr (7, [.ref 2, .ref 154]) :: ((List.range 152).map (cellD 2 A0) ++ (List.range 152).map (cellD 154 A0))) ++ (List.range 34).map (cellM M0) ++ [.inl (3, 1, .inr (.inl fun _ => 0)), .inl (4, 1, .inr (.inr (.inr (.inl fun _ => 0))))] := by
  have d1 : dkL 1 6 3 4 = (List.range 152).map (cellD 2 A0) := (dkG_b rfl).trans dk_2
  have d2 : dkL 153 6 3 4 = (List.range 152).map (cellD 154 A0) := (dkG_b rfl).trans dk_154
  rw [← d1, ← d2, ← md_306]
  rfl
theorem lbL_len : (lbL 0).length = 305 := by
  show (dkL (0 + 1) 6 3 4 ++ dkL (0 + 153) 6 3 4).length + 1 = 305
  rw [List.length_append, dkL_len, dkL_len]
theorem iniC_len : iniC.length = 341 := by
  rw [iniC_eq]
  simp only [List.length_append, List.length_cons, List.length_nil, rg_len]
theorem ic_0 : iniC[0]? = some (.inr (7, [.ref 2, .ref 154])) := by
  rw [iniC_eq]
  rfl
theorem ic_1 {o : Nat} (ho : o < 152) : iniC[1 + o]? = some (cellD 2 A0 o) := by
  rw [iniC_eq, List.getElem?_append_left (by simp only [List.length_append, List.length_cons, rg_len]; omega), List.getElem?_append_left (by simp only [List.length_append, List.length_cons, rg_len]; omega), Nat.add_comm 1 o, List.getElem?_cons_succ, List.getElem?_append_left (by rw [rg_len]; exact ho), rg_at ho]
theorem ic_2 {o : Nat} (ho : o < 152) : iniC[153 + o]? = some (cellD 154 A0 o) := by
  rw [iniC_eq, List.getElem?_append_left (by simp only [List.length_append, List.length_cons, rg_len]; omega), List.getElem?_append_left (by simp only [List.length_append, List.length_cons, rg_len]; omega), show 153 + o = (152 + o) + 1 from by omega, List.getElem?_cons_succ, List.getElem?_append_right (by rw [rg_len]; omega), rg_len, show 152 + o - 152 = o from by omega, rg_at ho]
theorem ic_3 {o : Nat} (ho : o < 34) : iniC[305 + o]? = some (cellM M0 o) := by
  have e : ((.inr (7, [.ref 2, .ref 154]) : va_E) :: ((List.range 152).map (cellD 2 A0) ++ (List.range 152).map (cellD 154 A0)) : List va_E).length = 305 := by simp only [List.length_append, List.length_cons, rg_len]
  rw [iniC_eq, List.getElem?_append_left (by simp only [List.length_append, List.length_cons, rg_len]; omega), List.getElem?_append_right (by simp only [List.length_append, List.length_cons, rg_len]; omega)]
  simp only [List.length_append, List.length_cons, rg_len]
  rw [show 305 + o - (152 + 152 + 1) = o from by omega, rg_at ho]
theorem ic_4 {o : Nat} : iniC[339 + o]? = [(.inl (3, 1, .inr (.inl fun _ => 0)) : va_E), .inl (4, 1, .inr (.inr (.inr (.inl fun _ => 0))))][o]? := by
  rw [iniC_eq, List.getElem?_append_right (by simp only [List.length_append, List.length_cons, rg_len]; omega)]
  simp only [List.length_append, List.length_cons, rg_len]
  rw [show 339 + o - (152 + 152 + 1 + 34) = o from by omega]
theorem ini_H {L : Nat} {xs : Nat → Int32} : hl (fun _ => .inl (0, L, .inl xs)) 0 iniC = H (L, xs, 0, 0) S0 M0 := by
  refine Prod.ext (by rw [hl_1, iniC_len, H_1]) (funext fun x => ?_)
  have at' : ∀ (j : Nat) (e : va_E), iniC[j]? = some e → (hl (fun _ => .inl (0, L, .inl xs)) 0 iniC).2 (j + 1) = e := fun j e h => by
    have q := hl_at (f := fun _ => .inl (0, L, .inl xs)) (n := 0) h
    rw [Nat.zero_add] at q
    exact q
  have zl : (fun _ => 0 : Nat → Int64) = fun i => if i = 0 then (0 : Int64) else 0 := by funext i; split <;> rfl
  have zd : (fun _ => 0 : Nat → UInt64) = fun i => if i = 0 then (0 : UInt64) else 0 := by funext i; split <;> rfl
  by_cases h0 : x = 0
  · subst h0
    rw [H_E (Or.inl rfl)]
    rfl
  by_cases h1 : x = 1
  · subst h1
    rw [H_E (Or.inr (Or.inl rfl))]
    exact at' 0 _ ic_0
  by_cases h2 : x < 154
  · obtain ⟨o, rfl⟩ : ∃ o, x = 2 + o := ⟨x - 2, by omega⟩
    rw [H_D isB_2 (by omega), show 2 + o = (1 + o) + 1 from by omega]
    exact at' _ _ (ic_1 (by omega))
  by_cases h3 : x < 306
  · obtain ⟨o, rfl⟩ : ∃ o, x = 154 + o := ⟨x - 154, by omega⟩
    rw [H_D isB_154 (by omega), show 154 + o = (153 + o) + 1 from by omega]
    exact at' _ _ (ic_2 (by omega))
  by_cases h4 : x < 340
  · obtain ⟨o, rfl⟩ : ∃ o, x = 306 + o := ⟨x - 306, by omega⟩
    rw [H_M (by omega), show 306 + o = (305 + o) + 1 from by omega]
    exact at' _ _ (ic_3 (by omega))
  by_cases h5 : x = 340
  · subst h5
    rw [H_E (Or.inr (Or.inr (Or.inl rfl)))]
    refine (at' 339 _ (ic_4 (o := 0))).trans ?_
    exact congrArg (fun g => (.inl (3, 1, .inr (.inl g)) : va_E)) zl
  by_cases h6 : x = 341
  · subst h6
    rw [H_E (Or.inr (Or.inr (Or.inr rfl)))]
    refine (at' 340 _ (ic_4 (o := 1))).trans ?_
    exact congrArg (fun g => (.inl (4, 1, .inr (.inr (.inr (.inl g)))) : va_E)) zd
  have e1 : (H (L, xs, 0, 0) S0 M0).2 x = .inl (0, L, .inl xs) := by
    unfold H cellE
    dsimp only
    rw [if_neg (by omega), if_neg (by omega), if_neg (by omega), if_neg h1, if_neg h5, if_neg h6]
  rw [e1]
  show (if 0 < x then (match iniC[x - 0 - 1]? with | some e => e | none => (.inl (0, L, .inl xs) : va_E)) else (.inl (0, L, .inl xs) : va_E)) = _
  rw [if_pos (by omega), List.getElem?_eq_none (by rw [iniC_len]; omega)]
theorem rel_0 : Rel A0 M0 := by
  refine ⟨fun k hk => ?_, fun e n h1 h2 h3 => ?_, fun l s => rfl, fun l s h => absurd rfl h, fun e => rfl, fun e h => absurd rfl h⟩
  · exact if_pos ⟨hk.1, hk.2.2.2.2⟩
  · exfalso
    have e0 : (0 : Int32) = Int32.ofNat n := h1
    have : n = 0 := by
      have q := congrArg Int32.toNatClampNeg e0
      rw [i_nat (by omega)] at q
      exact q.symm
    omega
theorem smal_0 {n : Nat} : smal 0 n := ⟨0, Nat.zero_le _, rfl⟩
theorem inv_0 : Inv A0 0 := by
  have r9 : ∀ s, s < 48 → rowN1 48 s = -1 := fun s hs => if_pos hs
  have c9 : cntF (rowN1 48) (-1) 48 0 0 = 0 := by decide +kernel
  have l14 : ∀ l, l < 3 → rowC (-1) 3 l = -1 := fun l hl => if_pos hl
  have l16 : ∀ l, l < 3 → rowC 100 3 l = 100 := fun l hl => if_pos hl
  have l17 : ∀ l, l < 3 → rowC 5 3 l = 5 := fun l hl => if_pos hl
  have l29 : ∀ l, l < 3 → ∀ c, A0 29 l c = rowN1 48 := fun l hl c => funext fun s => if_pos hl
  refine ⟨⟨smal_0, smal_0, fun g hg => ⟨0, by omega, rfl, fun j hj => absurd hj (by omega), fun i j h1 h2 => absurd h2 (by omega)⟩⟩, ⟨smal_0, fun p hp => smal_0, fun p hp => smal_0⟩, ⟨fun s hs => Or.inl (r9 s hs), c9.symm⟩, ⟨⟨0, by omega, rfl, fun e he => absurd he (by omega)⟩, fun e he => ⟨⟨0, by omega, rfl⟩, (by decide : ¬ (2 : Int32) = 0)⟩⟩, ⟨smal_0, smal_0, fun l hl => Or.inr smal_0⟩, fun l hl => ⟨0, by omega, rfl, Or.inl (l14 l hl), fun c h1 h2 s hs => ?_⟩, fun l hl s hs => ⟨(by unfold fb; decide : fb (0 : Int32).toUInt32), smal_0, smal_0, smal_0, fun h => absurd rfl h⟩, fun l hl => ⟨⟨100, by omega, l16 l hl⟩, ⟨5, by omega, l17 l hl⟩, fun c hc => ⟨smal_0, smal_0, Or.inl (l14 l hl), Or.inl rfl⟩⟩, fun l hl c hc => ⟨?_, fun s hs => Or.inl ?_⟩⟩
  · rw [l29 l hl]; exact r9 s hs
  · rw [l29 l hl]; exact c9.symm
  · rw [l29 l hl]; exact r9 s hs
end INI
