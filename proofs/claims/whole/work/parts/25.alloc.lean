section ALLOC
variable {p : Program} {l : Launch} {e : Env} {R : Room} {s : State} {m : MethodId} {args : Array Value} {below : List Frame} {meth : Method} {c : Code} {Q : State → Prop} {D : va_G} {tA : Nat → ClassId} {lo k : Nat} {ad0 : Nat → Nat} {n0 : Nat}
variable {pc pc' : Nat} {ls ls' st st' : List Value} {bc bs bc' bs' : Nat} {hp hp' : Hp}
theorem tr_dv {ad : Nat → Nat} {ty : FieldType} : tr ad (defaultValue ty) = defaultValue ty := by cases ty <;> rfl
theorem tr_dflt {ad : Nat → Nat} {ci : Nat} : (dflt ci).map (tr ad) = dflt ci := by
  unfold dflt
  rw [List.map_map]
  exact List.map_congr_left fun j _ => tr_dv
theorem okv_dv {n : Nat} {ty : FieldType} : okv n (defaultValue ty) := by cases ty <;> trivial
theorem ok_dflt {n ci : Nat} : ∀ v ∈ dflt ci, okv n v := by
  intro v hv
  obtain ⟨j, -, rfl⟩ := List.mem_map.mp hv
  exact okv_dv
theorem dflt_at {ci j : Nat} (h : j < nF ci) : defaultValue (yF ci j) = vp_V (dflt ci) j := by
  unfold vp_V dflt
  rw [List.getD_eq_getElem?_getD, List.getElem?_map, List.getElem?_range h]
  rfl
theorem new_spec {k x kd ci : Nat} (h : newOf k x = some (kd, ci)) : (kd = 0 → ci < 9) ∧ (kd = 1 → ci < 6) ∧ ∀ w ∈ newWs (mO k) x kd ci, w ∈ TW := by
  obtain ⟨h1, h2⟩ := new_tab (mO k) (mO_lt k)
  obtain ⟨i, hi⟩ := zip_in h1 (lookup_mem h)
  obtain ⟨h3, h4, h5⟩ := h2 _ hi
  exact ⟨h3, h4, atP_in h5⟩
theorem bytes_le {N : Nat} {ty : FieldType} (h : N ≤ 65536) (hc : componentBytes ty ≤ 8) : N * componentBytes ty ≤ 536870912 := Nat.le_trans (Nat.mul_le_mul h hc) (by decide)
theorem acw : nativeFrameWords "java/lang/System" "arraycopy" 5 ≤ 20 := by decide
theorem add_0 {hp : Hp} {e : va_E} : (addHp hp e).2 0 = hp.2 0 := by
  have : ¬ 0 = hp.1 + 1 := by omega
  simp only [addHp, va_up, if_neg this]
/-- one cell more -/
theorem Rl.add {ad : Nat → Nat} {H H1 : Heap} {locs : List Loc} {lsr : Array Slot} {q : Nat} {E : va_E} (hR : Rl s D tA lo k ad0 n0 ad hp ls st H locs lsr)
    (hP : va_P D vw9 (wl ad tA hp ++ [(q, trE (va_up ad (hp.1 + 1) q) tA E)]) H1) (hD : va_D (loA lo) (wl ad tA hp ++ [(q, trE (va_up ad (hp.1 + 1) q) tA E)])) (hS : va_S (loA lo) s.heap H1 locs) (hok : okE (hp.1 + 1) E) :
    Rl s D tA lo k ad0 n0 (va_up ad (hp.1 + 1) q) (addHp hp E) ls (.ref (hp.1 + 1) :: st) H1 locs lsr ∧ (Value.ref (hp.1 + 1) :: st).map (tr (va_up ad (hp.1 + 1) q)) = .ref q :: st.map (tr ad) := by
  obtain ⟨-, r2, ⟨r3, r4⟩, r5, ⟨r6, r7⟩, L, xs, r8, r9, r10⟩ := hR
  have hag : ∀ i, i ≤ hp.1 → va_up ad (hp.1 + 1) q i = ad i := fun i hi => by
    have : ¬ i = hp.1 + 1 := by omega
    simp only [va_up, if_neg this]
  have hst : st.map (tr (va_up ad (hp.1 + 1) q)) = st.map (tr ad) := st_eq hag r3
  rw [← wl_add r2] at hP hD
  refine ⟨⟨⟨hP, hD, hS⟩, okH_add r2 hok, ⟨ok_cs (Nat.le_refl _) (fun v hv => okv_mono (Nat.le_succ _) (r3 v hv)), fun v hv => okv_mono (Nat.le_succ _) (r4 v hv)⟩, r5.eq hag r4, ⟨fun i hi => (hag i (Nat.le_trans hi r7)).trans (r6 i hi), Nat.le_succ_of_le r7⟩, L, xs, add_0.trans r8, ?_, ?_⟩, ?_⟩
  · rw [hag 0 (Nat.zero_le _)]; exact r9
  · rw [hag 0 (Nat.zero_le _)]; exact r10
  · rw [List.map_cons, hst]
    simp only [tr, va_up, if_true]
theorem arr_word {ty : FieldType} (hF : SF D tA s) (h : ty ∈ [FieldType.int, .float, .boolean, .long, .double]) : (Cond.arrayClass ty).before args s = true := by
  refine hF.word (atP_in arr_tab _ ?_)
  simp only [List.mem_cons, List.not_mem_nil, or_false] at h ⊢
  rcases h with rfl | rfl | rfl | rfl | rfl <;> simp
theorem n_new {x : Nat} (hC : Cx p l R s m meth c k lo D tA) (hd : decode (mB k) pc = .ok ((.new x), 3)) (h : act k (.new x) pc ls st bc bs hp = some (.inl (pc', ls', st', bc', bs', hp'))) (hk : Wg p l e R s m args below meth c Q D tA lo k ad0 n0 pc' ls' st' bc' bs' hp') : Wg p l e R s m args below meth c Q D tA lo k ad0 n0 pc ls st bc bs hp := by
  obtain ⟨⟨hx, hb, hown, hml⟩, ⟨hlk, hr, hmn, hxt⟩, hF, hZ, hlo, hrm, htr⟩ := hC
  cases hf : newOf k x with
  | none => simp only [act, hf] at h; exact nos h
  | some q =>
    obtain ⟨kd, ci⟩ := q
    rcases kd with _ | _ | kd
    · by_cases hc : ci < 9 ∧ 1 ≤ bc ∧ nF ci ≤ bs
      · have h1 : (some (Sum.inl (pc + 3, ls, .ref (hp.1 + 1) :: st, bc - 1, bs - nF ci, addHp hp (.inr (ci, dflt ci)))) : Option Act) = some (Sum.inl (pc', ls', st', bc', bs', hp')) := by simp only [act, hf, if_pos hc] at h; exact h
        cases h1
        intro H locs lsr ad cells slots hR z1 z2
        have hR0 := hR
        obtain ⟨⟨hP, hD, hS⟩, r2, ⟨r3, r4⟩, r5, r6⟩ := hR
        obtain ⟨c9, b1, b2⟩ := hc
        obtain ⟨-, -, hw⟩ := new_spec hf
        refine va_new (ci := ci) (fs := dflt ci) (C := rF ci) (T := tF ci) (N := nF ci) hx hb (Ts := TW) hF.words (cls_lay c9) (yF ci) (cls_ty ci c9) hown (hF.word (hw _ List.mem_cons_self)) (hF.word (atP_in (cls_tab ci c9) _ (List.mem_append_right _ List.mem_cons_self))) (hF.word (atP_in (cls_tab ci c9) _ (List.mem_append_right _ (List.mem_cons_of_mem _ List.mem_cons_self)))) hF.1 hP hD hS (lo_own hlo) (cls_row ci c9) (fun j hj => dflt_at hj) (by omega) (by omega) hd (fun q H1 hP1 hD1 hS1 => ?_)
        rw [show (Sum.inr (ci, dflt ci) : va_E) = trE (va_up ad (hp.1 + 1) q) tA (.inr (ci, dflt ci)) by simp only [trE, tr_dflt]] at hP1 hD1
        obtain ⟨g1, g2⟩ := hR0.add hP1 hD1 hS1 (E := .inr (ci, dflt ci)) ok_dflt
        rw [← g2]
        exact hk H1 locs lsr _ (cells + 1) (slots + nF ci) g1 (by omega) (by omega)
      · simp only [act, hf, if_neg hc] at h
        exact nos h
    · simp only [act, hf] at h
      split at h
      · cases h
      · exact nos h
    · simp only [act, hf] at h
      exact nos h
theorem n_newarray {ty : ArrayType} (hC : Cx p l R s m meth c k lo D tA) (hd : decode (mB k) pc = .ok ((.newarray ty), 2)) (h : act k (.newarray ty) pc ls st bc bs hp = some (.inl (pc', ls', st', bc', bs', hp'))) (hk : Wg p l e R s m args below meth c Q D tA lo k ad0 n0 pc' ls' st' bc' bs' hp') : Wg p l e R s m args below meth c Q D tA lo k ad0 n0 pc ls st bc bs hp := by
  obtain ⟨⟨hx, hb, hown, hml⟩, ⟨hlk, hr, hmn, hxt⟩, hF, hZ, hlo, hrm, htr⟩ := hC
  cases st with
  | nil => exact nos h
  | cons v0 st =>
    cases v0 with
    | int n =>
      by_cases hc : ¬ n < 0 ∧ n.toNatClampNeg ≤ 65536 ∧ 1 ≤ bc ∧ n.toNatClampNeg ≤ bs
      · obtain ⟨b0, b1, b2, b3⟩ := id hc
        cases ty with
        | boolean =>
          have h1 : (some (Sum.inl (pc + 2, ls, .ref (hp.1 + 1) :: st, bc - 1, bs - n.toNatClampNeg, addHp hp (.inl (2, (n.toNatClampNeg, .inl fun _ => 0))))) : Option Act) = some (Sum.inl (pc', ls', st', bc', bs', hp')) := by simp only [act, atTag, newA, if_pos hc] at h; exact h
          cases h1
          intro H locs lsr ad cells slots hR z1 z2
          have hR0 : Rl s D tA lo k ad0 n0 ad hp _ _ H locs lsr := ⟨hR.1, hR.2.1, ⟨ok_tl hR.2.2.1.1, hR.2.2.1.2⟩, hR.2.2.2⟩
          obtain ⟨⟨hP, hD, hS⟩, r2, ⟨r3, r4⟩, r5, r6⟩ := hR
          refine va_newa (atype := .boolean) (ty := .boolean) (a0 := (n.toNatClampNeg, .inl fun _ => 0)) hx hb (arr_word hF (by simp [newarray.typeOf])) rfl hF.1 hP hD hS (lo_own hlo) (fun _ => rfl) b0 rfl (bytes_le b1 (by decide)) (by omega) (by omega) hd (fun q cA H1 hK1 hP1 hD1 hS1 => ?_)
          have hcA : cA = tA 2 := by
            have k1 := (hK1.2 9 (cA, .boolean) rfl).2
            have k2 := (hF.1.2 2 (tA 2, .boolean) rfl).2
            exact Option.some.inj (Eq.trans (Eq.symm k1) k2)
          subst hcA
          rw [show (Sum.inl (tA 2, (n.toNatClampNeg, .inl fun _ => 0)) : va_E) = trE (va_up ad (hp.1 + 1) q) tA (.inl (2, (n.toNatClampNeg, .inl fun _ => 0))) from rfl] at hP1 hD1
          obtain ⟨g1, g2⟩ := hR0.add hP1 hD1 hS1 (E := .inl (2, (n.toNatClampNeg, .inl fun _ => 0))) trivial
          rw [← g2]
          exact hk H1 locs lsr _ (cells + 1) (slots + n.toNatClampNeg) g1 (by omega) (by omega)
        | char => simp only [act, atTag, newA] at h; exact nos h
        | float =>
          have h1 : (some (Sum.inl (pc + 2, ls, .ref (hp.1 + 1) :: st, bc - 1, bs - n.toNatClampNeg, addHp hp (.inl (1, (n.toNatClampNeg, .inr (.inr (.inl fun _ => 0))))))) : Option Act) = some (Sum.inl (pc', ls', st', bc', bs', hp')) := by simp only [act, atTag, newA, if_pos hc] at h; exact h
          cases h1
          intro H locs lsr ad cells slots hR z1 z2
          have hR0 : Rl s D tA lo k ad0 n0 ad hp _ _ H locs lsr := ⟨hR.1, hR.2.1, ⟨ok_tl hR.2.2.1.1, hR.2.2.1.2⟩, hR.2.2.2⟩
          obtain ⟨⟨hP, hD, hS⟩, r2, ⟨r3, r4⟩, r5, r6⟩ := hR
          refine va_newa (atype := .float) (ty := .float) (a0 := (n.toNatClampNeg, .inr (.inr (.inl fun _ => 0)))) hx hb (arr_word hF (by simp [newarray.typeOf])) rfl hF.1 hP hD hS (lo_own hlo) (fun _ => rfl) b0 rfl (bytes_le b1 (by decide)) (by omega) (by omega) hd (fun q cA H1 hK1 hP1 hD1 hS1 => ?_)
          have hcA : cA = tA 1 := by
            have k1 := (hK1.2 9 (cA, .float) rfl).2
            have k2 := (hF.1.2 1 (tA 1, .float) rfl).2
            exact Option.some.inj (Eq.trans (Eq.symm k1) k2)
          subst hcA
          rw [show (Sum.inl (tA 1, (n.toNatClampNeg, .inr (.inr (.inl fun _ => 0)))) : va_E) = trE (va_up ad (hp.1 + 1) q) tA (.inl (1, (n.toNatClampNeg, .inr (.inr (.inl fun _ => 0))))) from rfl] at hP1 hD1
          obtain ⟨g1, g2⟩ := hR0.add hP1 hD1 hS1 (E := .inl (1, (n.toNatClampNeg, .inr (.inr (.inl fun _ => 0))))) trivial
          rw [← g2]
          exact hk H1 locs lsr _ (cells + 1) (slots + n.toNatClampNeg) g1 (by omega) (by omega)
        | double =>
          have h1 : (some (Sum.inl (pc + 2, ls, .ref (hp.1 + 1) :: st, bc - 1, bs - n.toNatClampNeg, addHp hp (.inl (4, (n.toNatClampNeg, .inr (.inr (.inr (.inl fun _ => 0)))))))) : Option Act) = some (Sum.inl (pc', ls', st', bc', bs', hp')) := by simp only [act, atTag, newA, if_pos hc] at h; exact h
          cases h1
          intro H locs lsr ad cells slots hR z1 z2
          have hR0 : Rl s D tA lo k ad0 n0 ad hp _ _ H locs lsr := ⟨hR.1, hR.2.1, ⟨ok_tl hR.2.2.1.1, hR.2.2.1.2⟩, hR.2.2.2⟩
          obtain ⟨⟨hP, hD, hS⟩, r2, ⟨r3, r4⟩, r5, r6⟩ := hR
          refine va_newa (atype := .double) (ty := .double) (a0 := (n.toNatClampNeg, .inr (.inr (.inr (.inl fun _ => 0))))) hx hb (arr_word hF (by simp [newarray.typeOf])) rfl hF.1 hP hD hS (lo_own hlo) (fun _ => rfl) b0 rfl (bytes_le b1 (by decide)) (by omega) (by omega) hd (fun q cA H1 hK1 hP1 hD1 hS1 => ?_)
          have hcA : cA = tA 4 := by
            have k1 := (hK1.2 9 (cA, .double) rfl).2
            have k2 := (hF.1.2 4 (tA 4, .double) rfl).2
            exact Option.some.inj (Eq.trans (Eq.symm k1) k2)
          subst hcA
          rw [show (Sum.inl (tA 4, (n.toNatClampNeg, .inr (.inr (.inr (.inl fun _ => 0))))) : va_E) = trE (va_up ad (hp.1 + 1) q) tA (.inl (4, (n.toNatClampNeg, .inr (.inr (.inr (.inl fun _ => 0)))))) from rfl] at hP1 hD1
          obtain ⟨g1, g2⟩ := hR0.add hP1 hD1 hS1 (E := .inl (4, (n.toNatClampNeg, .inr (.inr (.inr (.inl fun _ => 0)))))) trivial
          rw [← g2]
          exact hk H1 locs lsr _ (cells + 1) (slots + n.toNatClampNeg) g1 (by omega) (by omega)
        | byte => simp only [act, atTag, newA] at h; exact nos h
        | short => simp only [act, atTag, newA] at h; exact nos h
        | int =>
          have h1 : (some (Sum.inl (pc + 2, ls, .ref (hp.1 + 1) :: st, bc - 1, bs - n.toNatClampNeg, addHp hp (.inl (0, (n.toNatClampNeg, .inl fun _ => 0))))) : Option Act) = some (Sum.inl (pc', ls', st', bc', bs', hp')) := by simp only [act, atTag, newA, if_pos hc] at h; exact h
          cases h1
          intro H locs lsr ad cells slots hR z1 z2
          have hR0 : Rl s D tA lo k ad0 n0 ad hp _ _ H locs lsr := ⟨hR.1, hR.2.1, ⟨ok_tl hR.2.2.1.1, hR.2.2.1.2⟩, hR.2.2.2⟩
          obtain ⟨⟨hP, hD, hS⟩, r2, ⟨r3, r4⟩, r5, r6⟩ := hR
          refine va_newa (atype := .int) (ty := .int) (a0 := (n.toNatClampNeg, .inl fun _ => 0)) hx hb (arr_word hF (by simp [newarray.typeOf])) rfl hF.1 hP hD hS (lo_own hlo) (fun _ => rfl) b0 rfl (bytes_le b1 (by decide)) (by omega) (by omega) hd (fun q cA H1 hK1 hP1 hD1 hS1 => ?_)
          have hcA : cA = tA 0 := by
            have k1 := (hK1.2 9 (cA, .int) rfl).2
            have k2 := (hF.1.2 0 (tA 0, .int) rfl).2
            exact Option.some.inj (Eq.trans (Eq.symm k1) k2)
          subst hcA
          rw [show (Sum.inl (tA 0, (n.toNatClampNeg, .inl fun _ => 0)) : va_E) = trE (va_up ad (hp.1 + 1) q) tA (.inl (0, (n.toNatClampNeg, .inl fun _ => 0))) from rfl] at hP1 hD1
          obtain ⟨g1, g2⟩ := hR0.add hP1 hD1 hS1 (E := .inl (0, (n.toNatClampNeg, .inl fun _ => 0))) trivial
          rw [← g2]
          exact hk H1 locs lsr _ (cells + 1) (slots + n.toNatClampNeg) g1 (by omega) (by omega)
        | long =>
          have h1 : (some (Sum.inl (pc + 2, ls, .ref (hp.1 + 1) :: st, bc - 1, bs - n.toNatClampNeg, addHp hp (.inl (3, (n.toNatClampNeg, .inr (.inl fun _ => 0)))))) : Option Act) = some (Sum.inl (pc', ls', st', bc', bs', hp')) := by simp only [act, atTag, newA, if_pos hc] at h; exact h
          cases h1
          intro H locs lsr ad cells slots hR z1 z2
          have hR0 : Rl s D tA lo k ad0 n0 ad hp _ _ H locs lsr := ⟨hR.1, hR.2.1, ⟨ok_tl hR.2.2.1.1, hR.2.2.1.2⟩, hR.2.2.2⟩
          obtain ⟨⟨hP, hD, hS⟩, r2, ⟨r3, r4⟩, r5, r6⟩ := hR
          refine va_newa (atype := .long) (ty := .long) (a0 := (n.toNatClampNeg, .inr (.inl fun _ => 0))) hx hb (arr_word hF (by simp [newarray.typeOf])) rfl hF.1 hP hD hS (lo_own hlo) (fun _ => rfl) b0 rfl (bytes_le b1 (by decide)) (by omega) (by omega) hd (fun q cA H1 hK1 hP1 hD1 hS1 => ?_)
          have hcA : cA = tA 3 := by
            have k1 := (hK1.2 9 (cA, .long) rfl).2
            have k2 := (hF.1.2 3 (tA 3, .long) rfl).2
            exact Option.some.inj (Eq.trans (Eq.symm k1) k2)
          subst hcA
          rw [show (Sum.inl (tA 3, (n.toNatClampNeg, .inr (.inl fun _ => 0))) : va_E) = trE (va_up ad (hp.1 + 1) q) tA (.inl (3, (n.toNatClampNeg, .inr (.inl fun _ => 0)))) from rfl] at hP1 hD1
          obtain ⟨g1, g2⟩ := hR0.add hP1 hD1 hS1 (E := .inl (3, (n.toNatClampNeg, .inr (.inl fun _ => 0)))) trivial
          rw [← g2]
          exact hk H1 locs lsr _ (cells + 1) (slots + n.toNatClampNeg) g1 (by omega) (by omega)
      · cases ty <;> simp only [act, atTag, newA, if_neg hc] at h <;> exact nos h
    | _ => exact nos h
theorem tag_over {t ci : Nat} (h : arTag ci = some t) : rF ci ∈ [RX5, RX1, RX3, RX0] := by
  have h2 := lookup_mem h
  simp only [List.mem_cons, Prod.mk.injEq, List.not_mem_nil, or_false] at h2
  rcases h2 with ⟨rfl, rfl⟩ | ⟨rfl, rfl⟩ | ⟨rfl, rfl⟩ | ⟨rfl, rfl⟩
  · exact List.mem_cons_self
  · exact List.mem_cons_of_mem _ List.mem_cons_self
  · exact List.mem_cons_of_mem _ (List.mem_cons_of_mem _ List.mem_cons_self)
  · exact List.mem_cons_of_mem _ (List.mem_cons_of_mem _ (List.mem_cons_of_mem _ List.mem_cons_self))
theorem n_anewarray {x : Nat} (hC : Cx p l R s m meth c k lo D tA) (hd : decode (mB k) pc = .ok ((.anewarray x), 3)) (h : act k (.anewarray x) pc ls st bc bs hp = some (.inl (pc', ls', st', bc', bs', hp'))) (hk : Wg p l e R s m args below meth c Q D tA lo k ad0 n0 pc' ls' st' bc' bs' hp') : Wg p l e R s m args below meth c Q D tA lo k ad0 n0 pc ls st bc bs hp := by
  obtain ⟨⟨hx, hb, hown, hml⟩, ⟨hlk, hr, hmn, hxt⟩, hF, hZ, hlo, hrm, htr⟩ := hC
  cases st with
  | nil => exact nos h
  | cons v0 st =>
    cases v0 with
    | int n =>
      cases hf : newOf k x with
      | none => simp only [act, hf] at h; exact nos h
      | some q =>
        obtain ⟨kd, ci⟩ := q
        rcases kd with _ | kd
        · cases ht : arTag ci with
          | none => simp only [act, hf, ht] at h; exact nos h
          | some t =>
            by_cases hc : ¬ n < 0 ∧ n.toNatClampNeg ≤ 65536 ∧ 1 ≤ bc ∧ n.toNatClampNeg ≤ bs
            · have h1 : (some (Sum.inl (pc + 3, ls, .ref (hp.1 + 1) :: st, bc - 1, bs - n.toNatClampNeg, addHp hp (.inl (t, n.toNatClampNeg, .inr (.inr (.inr (.inr (fun _ => none)))))))) : Option Act) = some (Sum.inl (pc', ls', st', bc', bs', hp')) := by simp only [act, hf, ht, if_pos hc] at h; exact h
              cases h1
              intro H locs lsr ad cells slots hR z1 z2
              have hR0 : Rl s D tA lo k ad0 n0 ad hp _ _ H locs lsr := ⟨hR.1, hR.2.1, ⟨ok_tl hR.2.2.1.1, hR.2.2.1.2⟩, hR.2.2.2⟩
              obtain ⟨⟨hP, hD, hS⟩, r2, ⟨r3, r4⟩, r5, r6⟩ := hR
              obtain ⟨b0, b1, b2, b3⟩ := hc
              obtain ⟨-, -, hw⟩ := new_spec hf
              obtain ⟨c9, hty⟩ := tag_cls (tA := tA) ht
              refine va_newq (C := rF ci) hx hb hown (hF.word (hw _ List.mem_cons_self)) (hF.2.2.2.1 (rF ci) (tag_over ht)) hF.1 hP hD hS (lo_own hlo) b0 rfl (Nat.le_trans (Nat.mul_le_mul b1 (Nat.le_refl 4)) (by decide)) (by omega) (by omega) hd (fun q cA H1 hK1 hP1 hD1 hS1 => ?_)
              have hcA : cA = tA t := by
                have k1 := (hK1.2 9 (cA, .object (rF ci)) rfl).2
                have k2 := (hF.1.2 t (tA t, .object (rF ci)) hty).2
                obtain ⟨-, -, -, -, -, k3⟩ := k1
                obtain ⟨-, -, -, -, -, k4⟩ := k2
                exact Option.some.inj (k3.symm.trans k4)
              subst hcA
              rw [show (Sum.inl (tA t, n.toNatClampNeg, .inr (.inr (.inr (.inr (fun _ => none))))) : va_E) = trE (va_up ad (hp.1 + 1) q) tA (.inl (t, n.toNatClampNeg, .inr (.inr (.inr (.inr (fun _ => none)))))) from rfl] at hP1 hD1
              obtain ⟨g1, g2⟩ := hR0.add hP1 hD1 hS1 (E := .inl (t, n.toNatClampNeg, .inr (.inr (.inr (.inr (fun _ => none)))))) (fun i r hi => by cases hi)
              rw [← g2]
              exact hk H1 locs lsr _ (cells + 1) (slots + n.toNatClampNeg) g1 (by omega) (by omega)
            · simp only [act, hf, ht, if_neg hc] at h
              exact nos h
        · simp only [act, hf] at h
          exact nos h
    | _ => exact nos h
theorem cal_spec {k x kd k' : Nat} (h : calOf k x = some (kd, k')) : calPl kd k' = true ∧ ∀ w ∈ calWs (mO k) x kd k', w ∈ TW := by
  obtain ⟨h1, h2⟩ := cal_tab (mO k) (mO_lt k)
  obtain ⟨i, hi⟩ := zip_in h1 (lookup_mem h)
  obtain ⟨h3, h4⟩ := h2 _ hi
  exact ⟨h3, atP_in h4⟩
theorem ldc_spec {k x : Nat} {v : Value} (h : ldcOf k x = some v) : ∀ w ∈ ldcW (mO k) x v, w ∈ TW := by
  obtain ⟨h1, h2⟩ := ldc_tab (mO k) (mO_lt k)
  obtain ⟨i, hi⟩ := zip_in h1 (lookup_mem h)
  exact atP_in (h2 _ hi)
theorem mem0 {α : Type} {a : α} {l : List α} : a ∈ a :: l := List.mem_cons_self
theorem mem1 {α : Type} {a b : α} {l : List α} : a ∈ b :: a :: l := List.mem_cons_of_mem _ List.mem_cons_self
theorem mem2 {α : Type} {a b c : α} {l : List α} : a ∈ b :: c :: a :: l := List.mem_cons_of_mem _ mem1
theorem mem3 {α : Type} {a b c d : α} {l : List α} : a ∈ b :: c :: d :: a :: l := List.mem_cons_of_mem _ mem2
theorem n_ldc {x : Nat} (hC : Cx p l R s m meth c k lo D tA) (hd : decode (mB k) pc = .ok ((.ldc x), 2)) (h : act k (.ldc x) pc ls st bc bs hp = some (.inl (pc', ls', st', bc', bs', hp'))) (hk : Wg p l e R s m args below meth c Q D tA lo k ad0 n0 pc' ls' st' bc' bs' hp') : Wg p l e R s m args below meth c Q D tA lo k ad0 n0 pc ls st bc bs hp := by
  obtain ⟨⟨hx, hb, hown, hml⟩, ⟨hlk, hr, hmn, hxt⟩, hF, hZ, hlo, hrm, htr⟩ := hC
  cases hl : ldcOf k x with
  | none => simp only [act, hl] at h; exact nos h
  | some v =>
    have hw := ldc_spec hl
    cases v with
    | float v =>
      have h1 : (some (Sum.inl (pc + 2, ls, .float v :: st, bc, bs, hp)) : Option Act) = some (Sum.inl (pc', ls', st', bc', bs', hp')) := by simp only [act, hl] at h; exact h
      cases h1
      exact hk.go (fun r _ => ok_cs trivial r) (fun H locs lsr ad cells slots hL kk => lv_ldcf hx hb hown (hF.word (hw _ mem0)) hd kk)
    | int v =>
      have h1 : (some (Sum.inl (pc + 2, ls, .int v :: st, bc, bs, hp)) : Option Act) = some (Sum.inl (pc', ls', st', bc', bs', hp')) := by simp only [act, hl] at h; exact h
      cases h1
      exact hk.go (fun r _ => ok_cs trivial r) (fun H locs lsr ad cells slots hL kk => lv_ldc hx hb hown (hF.word (hw _ mem0)) hd kk)
    | _ => simp only [act, hl] at h; exact nos h
theorem n_ldc2 {x : Nat} (hC : Cx p l R s m meth c k lo D tA) (hd : decode (mB k) pc = .ok ((.ldc2_w x), 3)) (h : act k (.ldc2_w x) pc ls st bc bs hp = some (.inl (pc', ls', st', bc', bs', hp'))) (hk : Wg p l e R s m args below meth c Q D tA lo k ad0 n0 pc' ls' st' bc' bs' hp') : Wg p l e R s m args below meth c Q D tA lo k ad0 n0 pc ls st bc bs hp := by
  obtain ⟨⟨hx, hb, hown, hml⟩, ⟨hlk, hr, hmn, hxt⟩, hF, hZ, hlo, hrm, htr⟩ := hC
  cases hl : ldcOf k x with
  | none => simp only [act, hl] at h; exact nos h
  | some v =>
    have hw := ldc_spec hl
    cases v with
    | double v =>
      have h1 : (some (Sum.inl (pc + 3, ls, .double v :: st, bc, bs, hp)) : Option Act) = some (Sum.inl (pc', ls', st', bc', bs', hp')) := by simp only [act, hl] at h; exact h
      cases h1
      exact hk.go (fun r _ => ok_cs trivial r) (fun H locs lsr ad cells slots hL kk => lv_ldc2d hx hb hown (hF.word (hw _ mem0)) hd kk)
    | _ => simp only [act, hl] at h; exact nos h
theorem n_special {x : Nat} (hC : Cx p l R s m meth c k lo D tA) (hd : decode (mB k) pc = .ok ((.invokespecial x), 3)) (h : act k (.invokespecial x) pc ls st bc bs hp = some (.inl (pc', ls', st', bc', bs', hp'))) (hk : Wg p l e R s m args below meth c Q D tA lo k ad0 n0 pc' ls' st' bc' bs' hp') : Wg p l e R s m args below meth c Q D tA lo k ad0 n0 pc ls st bc bs hp := by
  obtain ⟨⟨hx, hb, hown, hml⟩, ⟨hlk, hr, hmn, hxt⟩, hF, hZ, hlo, hrm, htr⟩ := hC
  cases hf : calOf k x with
  | none => simp only [act, hf] at h; exact nos h
  | some q =>
    obtain ⟨kd, k2⟩ := q
    obtain ⟨-, hw⟩ := cal_spec hf
    rcases kd with _ | _ | _ | _ | _ | _ | _ | kd
    · simp only [act, hf] at h; exact nos h
    · simp only [act, hf] at h; exact nos h
    · simp only [act, hf] at h; exact nos h
    · simp only [act, hf] at h; split at h
      · cases h
      · exact nos h
    · simp only [act, hf] at h; split at h
      · cases h
      · exact nos h
    · simp only [act, hf] at h; exact nos h
    · cases st with
      | nil => simp only [act, hf] at h; exact nos h
      | cons v0 st =>
        cases v0 with
        | ref a =>
          by_cases hc : nsum st ≤ 8
          · have h1 : (some (Sum.inl (pc + 3, ls, st, bc, bs, hp)) : Option Act) = some (Sum.inl (pc', ls', st', bc', bs', hp')) := by simp only [act, hf, if_pos hc] at h; exact h
            cases h1
            exact hk.go (fun r _ => ok_tl r) (fun H locs lsr ad cells slots hL kk => W.objInit hx hb hown (hF.word (hw _ mem0)) (hF.word (hw _ mem1)) (hF.word (hw _ mem2)) rfl (by rw [hml]; exact hL.2.1) rfl hd (by omega) (by show 2 * 0 + _ + 12 ≤ _; rw [tr_sum]; omega) kk)
          · simp only [act, hf, if_neg hc] at h; exact nos h
        | _ => simp only [act, hf] at h; exact nos h
    · simp only [act, hf] at h; exact nos h
theorem n_static {x : Nat} (hC : Cx p l R s m meth c k lo D tA) (hd : decode (mB k) pc = .ok ((.invokestatic x), 3)) (h : act k (.invokestatic x) pc ls st bc bs hp = some (.inl (pc', ls', st', bc', bs', hp'))) (hk : Wg p l e R s m args below meth c Q D tA lo k ad0 n0 pc' ls' st' bc' bs' hp') : Wg p l e R s m args below meth c Q D tA lo k ad0 n0 pc ls st bc bs hp := by
  obtain ⟨⟨hx, hb, hown, hml⟩, ⟨hlk, hr, hmn, hxt⟩, hF, hZ, hlo, hrm, htr⟩ := hC
  cases hf : calOf k x with
  | none => simp only [act, hf] at h; exact nos h
  | some q =>
    obtain ⟨kd, k2⟩ := q
    obtain ⟨-, hw⟩ := cal_spec hf
    rcases kd with _ | _ | _ | _ | _ | _ | _ | _ | _ | _ | kd
    · simp only [act, hf] at h; exact nos h
    · simp only [act, hf] at h; split at h
      · cases h
      · exact nos h
    · simp only [act, hf] at h; split at h
      · cases h
      · exact nos h
    · simp only [act, hf] at h; exact nos h
    · simp only [act, hf] at h; exact nos h
    · simp only [act, hf] at h; split at h
      · cases h
      · exact nos h
    · simp only [act, hf] at h; exact nos h
    · cases st with
      | nil => simp only [act, hf] at h; exact nos h
      | cons v0 st =>
        cases v0 with
        | int a =>
          by_cases hc : nsum st ≤ 8
          · have h1 : (some (Sum.inl (pc + 3, ls, .int (if 0 ≤ a then a else 0 - a) :: st, bc, bs, hp)) : Option Act) = some (Sum.inl (pc', ls', st', bc', bs', hp')) := by simp only [act, hf, if_pos hc] at h; exact h
            cases h1
            intro H locs lsr ad cells slots hR z1 z2
            obtain ⟨r1, r2, ⟨r3, r4⟩, r5, r6⟩ := hR
            exact va_mabs hx hb (by rw [hml]; exact r5.2.1.symm) hown (hF.word (hw _ mem0)) (hF.word (hw _ mem1)) (hF.word (hw _ mem2)) (hF.word (hw _ mem3)) (by omega) (by rw [tr_sum]; omega) (by omega) (by omega) hd (hk H locs lsr ad cells slots ⟨r1, r2, ⟨ok_cs trivial (ok_tl r3), r4⟩, r5, r6⟩ z1 z2)
          · simp only [act, hf, if_neg hc] at h; exact nos h
        | _ => simp only [act, hf] at h; exact nos h
    · cases st with
      | nil => simp only [act, hf] at h; exact nos h
      | cons v0 st =>
        cases v0 with
        | int n =>
          cases st with
          | nil => simp only [act, hf] at h; exact nos h
          | cons v1 st =>
            cases v1 with
            | int dp =>
              cases st with
              | nil => simp only [act, hf] at h; exact nos h
              | cons v2 st =>
                cases v2 with
                | ref a =>
                  cases st with
                  | nil => simp only [act, hf] at h; exact nos h
                  | cons v3 st =>
                    cases v3 with
                    | int sp =>
                      cases st with
                      | nil => simp only [act, hf] at h; exact nos h
                      | cons v4 st =>
                        cases v4 with
                        | ref a0 =>
                          cases g0 : hp.2 a0 with
                          | inr y => simp only [act, hf, g0] at h; exact nos h
                          | inl y =>
                            obtain ⟨t0, n1, f⟩ := y
                            rcases f with f | f
                            · cases g1 : hp.2 a with
                              | inr y => simp only [act, hf, g0, g1] at h; exact nos h
                              | inl y =>
                                obtain ⟨t1, n2, g⟩ := y
                                rcases g with g | g
                                · by_cases hc : (t0 = 0 ∧ t1 = 0) ∧ (1 ≤ a0 ∧ a0 ≤ hp.1) ∧ (1 ≤ a ∧ a ≤ hp.1) ∧ ¬ sp < 0 ∧ ¬ dp < 0 ∧ ¬ n < 0 ∧ sp.toNatClampNeg + n.toNatClampNeg ≤ n1 ∧ dp.toNatClampNeg + n.toNatClampNeg ≤ n2 ∧ nsum st ≤ 8
                                  · have h1 : (some (Sum.inl (pc + 3, ls, st, bc, bs, setHp hp a (.inl (t1, n2, .inl (va_cpy f g sp.toNatClampNeg dp.toNatClampNeg n.toNatClampNeg))))) : Option Act) = some (Sum.inl (pc', ls', st', bc', bs', hp')) := by simp only [act, hf, g0, g1, if_pos hc] at h; exact h
                                    cases h1
                                    intro H locs lsr ad cells slots hR z1 z2
                                    obtain ⟨⟨hP, hD, hS⟩, r2, ⟨r3, r4⟩, r5, r6⟩ := hR
                                    obtain ⟨⟨rfl, rfl⟩, ⟨o2, o3⟩, ⟨o4, o5⟩, q1, q2, q3, q4, q5, q6⟩ := hc
                                    have he := wl_get (ad := ad) (tA := tA) o2 o3
                                    rw [g0] at he
                                    have hw2 := wl_get (ad := ad) (tA := tA) o4 o5
                                    rw [g1] at hw2
                                    obtain ⟨r6a, L, xs, r6b, r6c⟩ := r6
                                    refine va_copyi (ty := .int) hx hb (by rw [hml]; exact r5.2.1.symm) hown (hF.word (hw _ mem0)) (hF.word (hw _ mem1)) (hF.word (hw _ mem2)) (hF.word (hw _ mem3)) hF.1 hP hD hS (a0 - 1) (a - 1) 0 0 he hw2 rfl rfl rfl q1 q2 q3 q4 q5 (fun i _ => rfl) (by omega) (by rw [tr_sum]; have := acw; omega) hd (fun H1 locs1 hP1 hD1 hS1 => ?_)
                                    rw [show (Sum.inl (tA 0, n2, .inl (va_cpy f g sp.toNatClampNeg dp.toNatClampNeg n.toNatClampNeg)) : va_E) = trE ad tA (.inl (0, n2, .inl (va_cpy f g sp.toNatClampNeg dp.toNatClampNeg n.toNatClampNeg))) from rfl, ← wl_set o4 o5] at hP1 hD1
                                    exact hk H1 locs1 lsr ad cells slots ⟨⟨hP1, hD1, hS1⟩, okH_set r2 trivial, ⟨ok_tl (ok_tl (ok_tl (ok_tl (ok_tl r3)))), r4⟩, r5, r6a, L, xs, (set_0 o4).trans r6b, r6c⟩ z1 z2
                                  · simp only [act, hf, g0, g1, if_neg hc] at h; exact nos h
                                · simp only [act, hf, g0, g1] at h; exact nos h
                            · simp only [act, hf, g0] at h; exact nos h
                        | _ => simp only [act, hf] at h; exact nos h
                    | _ => simp only [act, hf] at h; exact nos h
                | _ => simp only [act, hf] at h; exact nos h
            | _ => simp only [act, hf] at h; exact nos h
        | _ => simp only [act, hf] at h; exact nos h
    · cases st with
      | nil => simp only [act, hf] at h; exact nos h
      | cons v0 st =>
        cases v0 with
        | float b =>
          by_cases hc : nsum st ≤ 8
          · have h1 : (some (Sum.inl (pc + 3, ls, .int b.toInt32 :: st, bc, bs, hp)) : Option Act) = some (Sum.inl (pc', ls', st', bc', bs', hp')) := by simp only [act, hf, if_pos hc] at h; exact h
            cases h1
            intro H locs lsr ad cells slots hR z1 z2
            obtain ⟨r1, r2, ⟨r3, r4⟩, r5, r6⟩ := hR
            exact vn_f2i hx hb (by rw [hml]; exact r5.2.1.symm) hown (hF.word (hw _ mem0)) (hF.word (hw _ mem1)) (hF.word (hw _ mem2)) (hF.word (hw _ mem3)) (by omega) (by rw [tr_sum]; omega) hd (hk H locs lsr ad cells slots ⟨r1, r2, ⟨ok_cs trivial (ok_tl r3), r4⟩, r5, r6⟩ z1 z2)
          · simp only [act, hf, if_neg hc] at h; exact nos h
        | _ => simp only [act, hf] at h; exact nos h
    · simp only [act, hf] at h; exact nos h
end ALLOC
