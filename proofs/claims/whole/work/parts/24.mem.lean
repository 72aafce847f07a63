section MEM
variable {p : Program} {l : Launch} {e : Env} {R : Room} {s : State} {m : MethodId} {args : Array Value} {below : List Frame} {meth : Method} {c : Code} {Q : State → Prop} {D : va_G} {tA : Nat → ClassId} {lo k : Nat} {ad0 : Nat → Nat} {n0 : Nat}
variable {pc pc' : Nat} {ls ls' st st' : List Value} {bc bs bc' bs' : Nat} {hp hp' : Hp}
theorem lookup_mem {α : Type} {l : List (Nat × α)} {x : Nat} {v : α} (h : l.lookup x = some v) : (x, v) ∈ l := by
  induction l with
  | nil => cases h
  | cons a l ih =>
    obtain ⟨y, w⟩ := a
    rw [List.lookup_cons] at h
    by_cases hxy : x = y
    · subst hxy
      rw [show (x == x) = true from beq_self_eq_true x] at h
      cases h
      exact List.mem_cons_self
    · rw [show (x == y) = false from beq_eq_false_iff_ne.mpr hxy] at h
      exact List.mem_cons_of_mem _ (ih h)
theorem mO_lt (k : Nat) : mO k < 11 := by
  by_cases h : k < 233
  · exact (meth_ok4 k h).2
  · have : mRow k = MX0_init := by
      unfold mRow
      rw [List.getD_eq_getElem?_getD, List.getElem?_eq_none (by rw [show methT.length = 233 from rfl]; omega)]
      rfl
    unfold mO
    rw [this]
    decide
theorem fld_spec {k x ci j : Nat} (h : fldOf k x = some (ci, j)) : (ci < 9 ∧ j < nF ci) ∧ Cond.fieldLink (ownN (mO k)) x (tF ci j).1 (tF ci j).2.1 (tF ci j).2.2.1 ∈ TW := by
  obtain ⟨h1, h2⟩ := fld_tab (mO k) (mO_lt k)
  obtain ⟨i, hi⟩ := zip_in h1 (lookup_mem h)
  obtain ⟨h3, h4⟩ := h2 _ hi
  exact ⟨h3, atP_in h4 _ List.mem_cons_self⟩
theorem cls_lay {ci : Nat} (h : ci < 9) : ∀ w ∈ u_ws (rF ci) (tF ci) (nF ci), w ∈ TW := fun w hw => atP_in (cls_tab ci h) w (List.mem_append_left _ hw)
theorem isObj_spec {hp : Hp} {a ci : Nat} {fs : List Value} (h : isObj hp a ci = some fs) : hp.2 a = .inr (ci, fs) ∧ 1 ≤ a ∧ a ≤ hp.1 := by
  unfold isObj at h
  cases hh : hp.2 a with
  | inl x => rw [hh] at h; cases h
  | inr y =>
    obtain ⟨c0, f0⟩ := y
    rw [hh] at h
    dsimp only at h
    by_cases hc : c0 = ci ∧ 1 ≤ a ∧ a ≤ hp.1
    · rw [if_pos hc] at h
      cases h
      obtain ⟨rfl, h2, h3⟩ := hc
      exact ⟨rfl, h2, h3⟩
    · rw [if_neg hc] at h; cases h
theorem fits_tr {ad : Nat → Nat} {ty : FieldType} {v : Value} (h : fits ty v = true) : fits ty (tr ad v) = true := by
  cases v <;> first | exact h | (cases ty <;> exact h)
theorem narrow_tr {ad : Nat → Nat} {ty : FieldType} {v : Value} (h : narrow ty v = v) : narrow ty (tr ad v) = tr ad v := by
  cases v <;> first | exact h | (cases ty <;> rfl)
theorem set_map {ad : Nat → Nat} {fs : List Value} {j : Nat} {v : Value} : (fs.map (tr ad)).set j (tr ad v) = (fs.set j v).map (tr ad) := by rw [List.map_set]
theorem set_0 {hp : Hp} {a : Nat} {e : va_E} (h : 1 ≤ a) : (setHp hp a e).2 0 = hp.2 0 := by
  have : ¬ 0 = a := by omega
  simp only [setHp, va_up, if_neg this]
theorem lo_own {lo : Nat} {H0 : Heap} (h : lo ≤ H0.size) : ∀ q, H0.size ≤ q → loA lo q := fun q hq => Nat.le_trans h hq
theorem n_getfield {x : Nat} (hC : Cx p l R s m meth c k lo D tA) (hd : decode (mB k) pc = .ok ((.getfield x), 3)) (h : act k (.getfield x) pc ls st bc bs hp = some (.inl (pc', ls', st', bc', bs', hp'))) (hk : Wg p l e R s m args below meth c Q D tA lo k ad0 n0 pc' ls' st' bc' bs' hp') : Wg p l e R s m args below meth c Q D tA lo k ad0 n0 pc ls st bc bs hp := by
  obtain ⟨⟨hx, hb, hown, hml⟩, ⟨hlk, hr, hmn, hxt⟩, hF, hZ, hlo, hrm, htr⟩ := hC
  cases st with
  | nil => exact nos h
  | cons v0 st =>
    cases v0 with
    | ref a =>
      cases hf : fldOf k x with
      | none => simp only [act, hf] at h; exact nos h
      | some q =>
        obtain ⟨ci, j⟩ := q
        cases ho : isObj hp a ci with
        | none => simp only [act, hf, ho] at h; exact nos h
        | some fs =>
          cases hv : fs[j]? with
          | none => simp only [act, hf, ho, hv] at h; exact nos h
          | some v =>
            have h1 : (some (Sum.inl (pc + 3, ls, v :: st, bc, bs, hp)) : Option Act) = some (Sum.inl (pc', ls', st', bc', bs', hp')) := by simp only [act, hf, ho, hv] at h; exact h
            cases h1
            intro H locs lsr ad cells slots hR z1 z2
            obtain ⟨⟨hP, hD, hS⟩, r2, ⟨r3, r4⟩, r5, r6⟩ := hR
            obtain ⟨⟨f1, f2⟩, f3⟩ := fld_spec hf
            obtain ⟨o1, o2, o3⟩ := isObj_spec ho
            have he := wl_get (ad := ad) (tA := tA) o2 o3
            rw [o1] at he
            have hok : okv hp.1 v := by have := r2 a o2 o3; rw [o1] at this; exact this v (List.mem_of_getElem? hv)
            exact va_get (D := D) (ci := ci) (v := tr ad v) (C := rF ci) (T := tF ci) (N := nF ci) hx hb (Ts := TW) hF.words (cls_lay f1) hown hF.1 hP (a - 1) he (cls_row ci f1) j f2 (hF.word f3) (fun _ q => q) (by rw [List.getElem?_map, hv]; rfl) hd (hk H locs lsr ad cells slots ⟨⟨hP, hD, hS⟩, r2, ⟨ok_cs hok (ok_tl r3), r4⟩, r5, r6⟩ z1 z2)
    | _ => exact nos h
theorem n_putfield {x : Nat} (hC : Cx p l R s m meth c k lo D tA) (hd : decode (mB k) pc = .ok ((.putfield x), 3)) (h : act k (.putfield x) pc ls st bc bs hp = some (.inl (pc', ls', st', bc', bs', hp'))) (hk : Wg p l e R s m args below meth c Q D tA lo k ad0 n0 pc' ls' st' bc' bs' hp') : Wg p l e R s m args below meth c Q D tA lo k ad0 n0 pc ls st bc bs hp := by
  obtain ⟨⟨hx, hb, hown, hml⟩, ⟨hlk, hr, hmn, hxt⟩, hF, hZ, hlo, hrm, htr⟩ := hC
  cases st with
  | nil => exact nos h
  | cons v st =>
    cases st with
    | nil => exact nos h
    | cons v1 st =>
      cases v1 with
      | ref a =>
        cases hf : fldOf k x with
        | none => simp only [act, hf] at h; exact nos h
        | some q =>
          obtain ⟨ci, j⟩ := q
          cases ho : isObj hp a ci with
          | none => simp only [act, hf, ho] at h; exact nos h
          | some fs =>
            by_cases hc : j < fs.length ∧ putOK k ci j v = true
            · have h1 : (some (Sum.inl (pc + 3, ls, st, bc, bs, setHp hp a (.inr (ci, fs.set j v)))) : Option Act) = some (Sum.inl (pc', ls', st', bc', bs', hp')) := by simp only [act, hf, ho, if_pos hc] at h; exact h
              cases h1
              intro H locs lsr ad cells slots hR z1 z2
              obtain ⟨⟨hP, hD, hS⟩, r2, ⟨r3, r4⟩, r5, r6⟩ := hR
              obtain ⟨⟨f1, f2⟩, f3⟩ := fld_spec hf
              obtain ⟨o1, o2, o3⟩ := isObj_spec ho
              have he := wl_get (ad := ad) (tA := tA) o2 o3
              rw [o1] at he
              obtain ⟨hl, hq⟩ := hc
              simp only [putOK, Bool.and_eq_true, Bool.or_eq_true, decide_eq_true_eq] at hq
              obtain ⟨⟨hfin, hnr⟩, hft⟩ := hq
              have hokA := r2 a o2 o3
              rw [o1] at hokA
              have hok2 : okH (setHp hp a (.inr (ci, fs.set j v))) := okH_set r2 (ok_set (ok_hd r3) hokA)
              obtain ⟨r6a, L, xs, r6b, r6c⟩ := r6
              have fin : ∀ (H1 : Heap) (locs1 : List Loc), va_P D vw9 ((wl ad tA hp).set (a - 1) (ad a, .inr (ci, (fs.map (tr ad)).set j (tr ad v)))) H1 → va_D (loA lo) ((wl ad tA hp).set (a - 1) (ad a, .inr (ci, (fs.map (tr ad)).set j (tr ad v)))) → va_S (loA lo) s.heap H1 locs1 → W p l e R s m args below meth c H1 locs1 cells slots Q (F0 m (pc + 3) lsr (st'.map (tr ad))) := by
                intro H1 locs1 hP1 hD1 hS1
                rw [set_map, show (Sum.inr (ci, (fs.set j v).map (tr ad)) : va_E) = trE ad tA (.inr (ci, fs.set j v)) from rfl, ← wl_set o2 o3] at hP1 hD1
                exact hk H1 locs1 lsr ad cells slots ⟨⟨hP1, hD1, hS1⟩, hok2, ⟨ok_tl (ok_tl r3), r4⟩, r5, r6a, L, xs, (set_0 o2).trans r6b, r6c⟩ z1 z2
              by_cases hfi : (tF ci j).2.2.2 = false
              · exact va_put (D := D) (ci := ci) (v := tr ad v) (ty := yF ci j) (C := rF ci) (T := tF ci) (N := nF ci) hx hb (Ts := TW) hF.words (cls_lay f1) (yF ci) (cls_ty ci f1) (cls_nm ci f1) hown hF.1 hP hD hS (a - 1) he (cls_row ci f1) j f2 (hF.word f3) (fun _ q => q) hfi (cls_ty ci f1 j f2) (narrow_tr hnr) (fits_tr hft) (by rw [List.length_map]; exact hl) hd fin
              · obtain ⟨g1, g2⟩ := hfin.resolve_left hfi
                exact va_putF (D := D) (ci := ci) (v := tr ad v) (ty := yF ci j) (C := rF ci) (T := tF ci) (N := nF ci) hx hb (Ts := TW) hF.words (cls_lay f1) (yF ci) (cls_ty ci f1) (cls_nm ci f1) hown hF.1 hP hD hS (a - 1) he (cls_row ci f1) j f2 (hF.word f3) (fun _ q => q) (by cases hz : (tF ci j).2.2.2 with | true => rfl | false => exact absurd hz hfi) ((hmn (nm_law g1)).trans g1) g2 (cls_ty ci f1 j f2) (narrow_tr hnr) (fits_tr hft) (by rw [List.length_map]; exact hl) hd fin
            · simp only [act, hf, ho, if_neg hc] at h
              exact nos h
      | _ => exact nos h
theorem n_iaload (hC : Cx p l R s m meth c k lo D tA) (hd : decode (mB k) pc = .ok (.iaload, 1)) (h : act k .iaload pc ls st bc bs hp = some (.inl (pc', ls', st', bc', bs', hp'))) (hk : Wg p l e R s m args below meth c Q D tA lo k ad0 n0 pc' ls' st' bc' bs' hp') : Wg p l e R s m args below meth c Q D tA lo k ad0 n0 pc ls st bc bs hp := by
  obtain ⟨⟨hx, hb, hown, hml⟩, ⟨hlk, hr, hmn, hxt⟩, hF, hZ, hlo, hrm, htr⟩ := hC
  cases st with
  | nil => exact nos h
  | cons v0 st =>
    cases v0 with
    | int i =>
      cases st with
      | nil => exact nos h
      | cons v1 st =>
        cases v1 with
        | ref a =>
          cases hh : hp.2 a with
          | inr y => simp only [act, hh] at h; exact nos h
          | inl y =>
            obtain ⟨t, n, f⟩ := y
            rcases f with f | f | f | f | f
            · by_cases hc : t = 0 ∧ a ≤ hp.1 ∧ ¬ (i < 0 ∨ n ≤ i.toNatClampNeg)
              · have h1 : (some (Sum.inl (pc + 1, ls, .int (f i.toNatClampNeg) :: st, bc, bs, hp)) : Option Act) = some (Sum.inl (pc', ls', st', bc', bs', hp')) := by simp only [act, hh, if_pos hc] at h; exact h
                cases h1
                intro H locs lsr ad cells slots hR z1 z2
                obtain ⟨⟨hP, hD, hS⟩, r2, ⟨r3, r4⟩, r5, r6⟩ := hR
                obtain ⟨rfl, o3, hin⟩ := hc
                have fin := hk H locs lsr ad cells slots ⟨⟨hP, hD, hS⟩, r2, ⟨ok_cs trivial (ok_tl (ok_tl r3)), r4⟩, r5, r6⟩ z1 z2
                by_cases ha : 1 ≤ a
                · have he := wl_get (ad := ad) (tA := tA) ha o3
                  rw [hh] at he
                  exact va_iald hx hb hF.1 hP (a - 1) 0 he rfl hin hd fin
                · have ha0 : a = 0 := Nat.lt_one_iff.mp (Nat.lt_of_not_le ha)
                  subst ha0
                  obtain ⟨-, L, xs, r6b, r6c, r6d⟩ := r6
                  rw [hh] at r6b
                  cases r6b
                  exact va_sld hx hb r6c (Nat.lt_of_lt_of_le r6d hlo) (fun q => absurd r6d (Nat.not_lt.mpr q)) hS hin hd fin
              · simp only [act, hh, if_neg hc] at h
                exact nos h
            · simp only [act, hh] at h; exact nos h
            · simp only [act, hh] at h; exact nos h
            · simp only [act, hh] at h; exact nos h
            · simp only [act, hh] at h; exact nos h
        | _ => exact nos h
    | _ => exact nos h
theorem n_iastore (hC : Cx p l R s m meth c k lo D tA) (hd : decode (mB k) pc = .ok (.iastore, 1)) (h : act k .iastore pc ls st bc bs hp = some (.inl (pc', ls', st', bc', bs', hp'))) (hk : Wg p l e R s m args below meth c Q D tA lo k ad0 n0 pc' ls' st' bc' bs' hp') : Wg p l e R s m args below meth c Q D tA lo k ad0 n0 pc ls st bc bs hp := by
  obtain ⟨⟨hx, hb, hown, hml⟩, ⟨hlk, hr, hmn, hxt⟩, hF, hZ, hlo, hrm, htr⟩ := hC
  cases st with
  | nil => exact nos h
  | cons v0 st =>
    cases v0 with
    | int x =>
      cases st with
      | nil => exact nos h
      | cons v1 st =>
        cases v1 with
        | int i =>
          cases st with
          | nil => exact nos h
          | cons v2 st =>
            cases v2 with
            | ref a =>
              cases hh : hp.2 a with
              | inr y => simp only [act, hh] at h; exact nos h
              | inl y =>
                obtain ⟨t, n, f⟩ := y
                rcases f with f | f | f | f | f
                · by_cases hc : t = 0 ∧ 1 ≤ a ∧ a ≤ hp.1 ∧ ¬ (i < 0 ∨ n ≤ i.toNatClampNeg)
                  · have h1 : (some (Sum.inl (pc + 1, ls, st, bc, bs, setHp hp a (Sum.inl (t, n, .inl (upd f i.toNatClampNeg x))))) : Option Act) = some (Sum.inl (pc', ls', st', bc', bs', hp')) := by simp only [act, hh, if_pos hc] at h; exact h
                    cases h1
                    intro H locs lsr ad cells slots hR z1 z2
                    obtain ⟨⟨hP, hD, hS⟩, r2, ⟨r3, r4⟩, r5, r6⟩ := hR
                    obtain ⟨rfl, o2, o3, hin⟩ := hc
                    have he := wl_get (ad := ad) (tA := tA) o2 o3
                    rw [hh] at he
                    obtain ⟨r6a, L, xs, r6b, r6c⟩ := r6
                    refine va_iast hx hb hF.1 hP hD hS (a - 1) 0 he rfl hin hd (fun H1 locs1 hP1 hD1 hS1 => ?_)
                    rw [show (Sum.inl (tA 0, n, .inl (upd f i.toNatClampNeg x)) : va_E) = trE ad tA (Sum.inl (0, n, .inl (upd f i.toNatClampNeg x))) from rfl, ← wl_set o2 o3] at hP1 hD1
                    exact hk H1 locs1 lsr ad cells slots ⟨⟨hP1, hD1, hS1⟩, okH_set r2 trivial, ⟨ok_tl (ok_tl (ok_tl r3)), r4⟩, r5, r6a, L, xs, ((set_0 o2).trans r6b), r6c⟩ z1 z2
                  · simp only [act, hh, if_neg hc] at h
                    exact nos h
                · simp only [act, hh] at h; exact nos h
                · simp only [act, hh] at h; exact nos h
                · simp only [act, hh] at h; exact nos h
                · simp only [act, hh] at h; exact nos h
            | _ => exact nos h
        | _ => exact nos h
    | _ => exact nos h
theorem n_baload (hC : Cx p l R s m meth c k lo D tA) (hd : decode (mB k) pc = .ok (.baload, 1)) (h : act k .baload pc ls st bc bs hp = some (.inl (pc', ls', st', bc', bs', hp'))) (hk : Wg p l e R s m args below meth c Q D tA lo k ad0 n0 pc' ls' st' bc' bs' hp') : Wg p l e R s m args below meth c Q D tA lo k ad0 n0 pc ls st bc bs hp := by
  obtain ⟨⟨hx, hb, hown, hml⟩, ⟨hlk, hr, hmn, hxt⟩, hF, hZ, hlo, hrm, htr⟩ := hC
  cases st with
  | nil => exact nos h
  | cons v0 st =>
    cases v0 with
    | int i =>
      cases st with
      | nil => exact nos h
      | cons v1 st =>
        cases v1 with
        | ref a =>
          cases hh : hp.2 a with
          | inr y => simp only [act, hh] at h; exact nos h
          | inl y =>
            obtain ⟨t, n, f⟩ := y
            rcases f with f | f | f | f | f
            · by_cases hc : t = 2 ∧ 1 ≤ a ∧ a ≤ hp.1 ∧ ¬ (i < 0 ∨ n ≤ i.toNatClampNeg)
              · have h1 : (some (Sum.inl (pc + 1, ls, .int (f i.toNatClampNeg) :: st, bc, bs, hp)) : Option Act) = some (Sum.inl (pc', ls', st', bc', bs', hp')) := by simp only [act, hh, if_pos hc] at h; exact h
                cases h1
                intro H locs lsr ad cells slots hR z1 z2
                obtain ⟨⟨hP, hD, hS⟩, r2, ⟨r3, r4⟩, r5, r6⟩ := hR
                obtain ⟨rfl, o2, o3, hin⟩ := hc
                have he := wl_get (ad := ad) (tA := tA) o2 o3
                rw [hh] at he
                exact va_zald hx hb hF.1 hP (a - 1) 2 he rfl hin hd (hk H locs lsr ad cells slots ⟨⟨hP, hD, hS⟩, r2, ⟨ok_cs trivial (ok_tl (ok_tl r3)), r4⟩, r5, r6⟩ z1 z2)
              · simp only [act, hh, if_neg hc] at h
                exact nos h
            · simp only [act, hh] at h; exact nos h
            · simp only [act, hh] at h; exact nos h
            · simp only [act, hh] at h; exact nos h
            · simp only [act, hh] at h; exact nos h
        | _ => exact nos h
    | _ => exact nos h
theorem n_bastore (hC : Cx p l R s m meth c k lo D tA) (hd : decode (mB k) pc = .ok (.bastore, 1)) (h : act k .bastore pc ls st bc bs hp = some (.inl (pc', ls', st', bc', bs', hp'))) (hk : Wg p l e R s m args below meth c Q D tA lo k ad0 n0 pc' ls' st' bc' bs' hp') : Wg p l e R s m args below meth c Q D tA lo k ad0 n0 pc ls st bc bs hp := by
  obtain ⟨⟨hx, hb, hown, hml⟩, ⟨hlk, hr, hmn, hxt⟩, hF, hZ, hlo, hrm, htr⟩ := hC
  cases st with
  | nil => exact nos h
  | cons v0 st =>
    cases v0 with
    | int x =>
      cases st with
      | nil => exact nos h
      | cons v1 st =>
        cases v1 with
        | int i =>
          cases st with
          | nil => exact nos h
          | cons v2 st =>
            cases v2 with
            | ref a =>
              cases hh : hp.2 a with
              | inr y => simp only [act, hh] at h; exact nos h
              | inl y =>
                obtain ⟨t, n, f⟩ := y
                rcases f with f | f | f | f | f
                · by_cases hc : t = 2 ∧ 1 ≤ a ∧ a ≤ hp.1 ∧ ¬ (i < 0 ∨ n ≤ i.toNatClampNeg)
                  · have h1 : (some (Sum.inl (pc + 1, ls, st, bc, bs, setHp hp a (Sum.inl (t, n, .inl (upd f i.toNatClampNeg (vp_nar .boolean x)))))) : Option Act) = some (Sum.inl (pc', ls', st', bc', bs', hp')) := by simp only [act, hh, if_pos hc] at h; exact h
                    cases h1
                    intro H locs lsr ad cells slots hR z1 z2
                    obtain ⟨⟨hP, hD, hS⟩, r2, ⟨r3, r4⟩, r5, r6⟩ := hR
                    obtain ⟨rfl, o2, o3, hin⟩ := hc
                    have he := wl_get (ad := ad) (tA := tA) o2 o3
                    rw [hh] at he
                    obtain ⟨r6a, L, xs, r6b, r6c⟩ := r6
                    refine va_zast hx hb hF.1 hP hD hS (a - 1) 2 he rfl hin hd (fun H1 locs1 hP1 hD1 hS1 => ?_)
                    rw [show (Sum.inl (tA 2, n, .inl (upd f i.toNatClampNeg (vp_nar .boolean x))) : va_E) = trE ad tA (Sum.inl (2, n, .inl (upd f i.toNatClampNeg (vp_nar .boolean x)))) from rfl, ← wl_set o2 o3] at hP1 hD1
                    exact hk H1 locs1 lsr ad cells slots ⟨⟨hP1, hD1, hS1⟩, okH_set r2 trivial, ⟨ok_tl (ok_tl (ok_tl r3)), r4⟩, r5, r6a, L, xs, ((set_0 o2).trans r6b), r6c⟩ z1 z2
                  · simp only [act, hh, if_neg hc] at h
                    exact nos h
                · simp only [act, hh] at h; exact nos h
                · simp only [act, hh] at h; exact nos h
                · simp only [act, hh] at h; exact nos h
                · simp only [act, hh] at h; exact nos h
            | _ => exact nos h
        | _ => exact nos h
    | _ => exact nos h
theorem n_faload (hC : Cx p l R s m meth c k lo D tA) (hd : decode (mB k) pc = .ok (.faload, 1)) (h : act k .faload pc ls st bc bs hp = some (.inl (pc', ls', st', bc', bs', hp'))) (hk : Wg p l e R s m args below meth c Q D tA lo k ad0 n0 pc' ls' st' bc' bs' hp') : Wg p l e R s m args below meth c Q D tA lo k ad0 n0 pc ls st bc bs hp := by
  obtain ⟨⟨hx, hb, hown, hml⟩, ⟨hlk, hr, hmn, hxt⟩, hF, hZ, hlo, hrm, htr⟩ := hC
  cases st with
  | nil => exact nos h
  | cons v0 st =>
    cases v0 with
    | int i =>
      cases st with
      | nil => exact nos h
      | cons v1 st =>
        cases v1 with
        | ref a =>
          cases hh : hp.2 a with
          | inr y => simp only [act, hh] at h; exact nos h
          | inl y =>
            obtain ⟨t, n, f⟩ := y
            rcases f with f | f | f | f | f
            · simp only [act, hh] at h; exact nos h
            · simp only [act, hh] at h; exact nos h
            · by_cases hc : t = 1 ∧ 1 ≤ a ∧ a ≤ hp.1 ∧ ¬ (i < 0 ∨ n ≤ i.toNatClampNeg)
              · have h1 : (some (Sum.inl (pc + 1, ls, .float (f i.toNatClampNeg) :: st, bc, bs, hp)) : Option Act) = some (Sum.inl (pc', ls', st', bc', bs', hp')) := by simp only [act, hh, if_pos hc] at h; exact h
                cases h1
                intro H locs lsr ad cells slots hR z1 z2
                obtain ⟨⟨hP, hD, hS⟩, r2, ⟨r3, r4⟩, r5, r6⟩ := hR
                obtain ⟨rfl, o2, o3, hin⟩ := hc
                have he := wl_get (ad := ad) (tA := tA) o2 o3
                rw [hh] at he
                exact va_fald hx hb hF.1 hP (a - 1) 1 he rfl hin hd (hk H locs lsr ad cells slots ⟨⟨hP, hD, hS⟩, r2, ⟨ok_cs trivial (ok_tl (ok_tl r3)), r4⟩, r5, r6⟩ z1 z2)
              · simp only [act, hh, if_neg hc] at h
                exact nos h
            · simp only [act, hh] at h; exact nos h
            · simp only [act, hh] at h; exact nos h
        | _ => exact nos h
    | _ => exact nos h
theorem n_fastore (hC : Cx p l R s m meth c k lo D tA) (hd : decode (mB k) pc = .ok (.fastore, 1)) (h : act k .fastore pc ls st bc bs hp = some (.inl (pc', ls', st', bc', bs', hp'))) (hk : Wg p l e R s m args below meth c Q D tA lo k ad0 n0 pc' ls' st' bc' bs' hp') : Wg p l e R s m args below meth c Q D tA lo k ad0 n0 pc ls st bc bs hp := by
  obtain ⟨⟨hx, hb, hown, hml⟩, ⟨hlk, hr, hmn, hxt⟩, hF, hZ, hlo, hrm, htr⟩ := hC
  cases st with
  | nil => exact nos h
  | cons v0 st =>
    cases v0 with
    | float x =>
      cases st with
      | nil => exact nos h
      | cons v1 st =>
        cases v1 with
        | int i =>
          cases st with
          | nil => exact nos h
          | cons v2 st =>
            cases v2 with
            | ref a =>
              cases hh : hp.2 a with
              | inr y => simp only [act, hh] at h; exact nos h
              | inl y =>
                obtain ⟨t, n, f⟩ := y
                rcases f with f | f | f | f | f
                · simp only [act, hh] at h; exact nos h
                · simp only [act, hh] at h; exact nos h
                · by_cases hc : t = 1 ∧ 1 ≤ a ∧ a ≤ hp.1 ∧ ¬ (i < 0 ∨ n ≤ i.toNatClampNeg)
                  · have h1 : (some (Sum.inl (pc + 1, ls, st, bc, bs, setHp hp a (Sum.inl (t, n, .inr (.inr (.inl (vf_upd f i.toNatClampNeg x))))))) : Option Act) = some (Sum.inl (pc', ls', st', bc', bs', hp')) := by simp only [act, hh, if_pos hc] at h; exact h
                    cases h1
                    intro H locs lsr ad cells slots hR z1 z2
                    obtain ⟨⟨hP, hD, hS⟩, r2, ⟨r3, r4⟩, r5, r6⟩ := hR
                    obtain ⟨rfl, o2, o3, hin⟩ := hc
                    have he := wl_get (ad := ad) (tA := tA) o2 o3
                    rw [hh] at he
                    obtain ⟨r6a, L, xs, r6b, r6c⟩ := r6
                    refine va_fast hx hb hF.1 hP hD hS (a - 1) 1 he rfl hin hd (fun H1 locs1 hP1 hD1 hS1 => ?_)
                    rw [show (Sum.inl (tA 1, n, .inr (.inr (.inl (vf_upd f i.toNatClampNeg x)))) : va_E) = trE ad tA (Sum.inl (1, n, .inr (.inr (.inl (vf_upd f i.toNatClampNeg x))))) from rfl, ← wl_set o2 o3] at hP1 hD1
                    exact hk H1 locs1 lsr ad cells slots ⟨⟨hP1, hD1, hS1⟩, okH_set r2 trivial, ⟨ok_tl (ok_tl (ok_tl r3)), r4⟩, r5, r6a, L, xs, ((set_0 o2).trans r6b), r6c⟩ z1 z2
                  · simp only [act, hh, if_neg hc] at h
                    exact nos h
                · simp only [act, hh] at h; exact nos h
                · simp only [act, hh] at h; exact nos h
            | _ => exact nos h
        | _ => exact nos h
    | _ => exact nos h
theorem n_laload (hC : Cx p l R s m meth c k lo D tA) (hd : decode (mB k) pc = .ok (.laload, 1)) (h : act k .laload pc ls st bc bs hp = some (.inl (pc', ls', st', bc', bs', hp'))) (hk : Wg p l e R s m args below meth c Q D tA lo k ad0 n0 pc' ls' st' bc' bs' hp') : Wg p l e R s m args below meth c Q D tA lo k ad0 n0 pc ls st bc bs hp := by
  obtain ⟨⟨hx, hb, hown, hml⟩, ⟨hlk, hr, hmn, hxt⟩, hF, hZ, hlo, hrm, htr⟩ := hC
  cases st with
  | nil => exact nos h
  | cons v0 st =>
    cases v0 with
    | int i =>
      cases st with
      | nil => exact nos h
      | cons v1 st =>
        cases v1 with
        | ref a =>
          cases hh : hp.2 a with
          | inr y => simp only [act, hh] at h; exact nos h
          | inl y =>
            obtain ⟨t, n, f⟩ := y
            rcases f with f | f | f | f | f
            · simp only [act, hh] at h; exact nos h
            · by_cases hc : t = 3 ∧ 1 ≤ a ∧ a ≤ hp.1 ∧ ¬ (i < 0 ∨ n ≤ i.toNatClampNeg)
              · have h1 : (some (Sum.inl (pc + 1, ls, .long (f i.toNatClampNeg) :: st, bc, bs, hp)) : Option Act) = some (Sum.inl (pc', ls', st', bc', bs', hp')) := by simp only [act, hh, if_pos hc] at h; exact h
                cases h1
                intro H locs lsr ad cells slots hR z1 z2
                obtain ⟨⟨hP, hD, hS⟩, r2, ⟨r3, r4⟩, r5, r6⟩ := hR
                obtain ⟨rfl, o2, o3, hin⟩ := hc
                have he := wl_get (ad := ad) (tA := tA) o2 o3
                rw [hh] at he
                exact va_lald hx hb hF.1 hP (a - 1) 3 he rfl hin hd (hk H locs lsr ad cells slots ⟨⟨hP, hD, hS⟩, r2, ⟨ok_cs trivial (ok_tl (ok_tl r3)), r4⟩, r5, r6⟩ z1 z2)
              · simp only [act, hh, if_neg hc] at h
                exact nos h
            · simp only [act, hh] at h; exact nos h
            · simp only [act, hh] at h; exact nos h
            · simp only [act, hh] at h; exact nos h
        | _ => exact nos h
    | _ => exact nos h
theorem n_lastore (hC : Cx p l R s m meth c k lo D tA) (hd : decode (mB k) pc = .ok (.lastore, 1)) (h : act k .lastore pc ls st bc bs hp = some (.inl (pc', ls', st', bc', bs', hp'))) (hk : Wg p l e R s m args below meth c Q D tA lo k ad0 n0 pc' ls' st' bc' bs' hp') : Wg p l e R s m args below meth c Q D tA lo k ad0 n0 pc ls st bc bs hp := by
  obtain ⟨⟨hx, hb, hown, hml⟩, ⟨hlk, hr, hmn, hxt⟩, hF, hZ, hlo, hrm, htr⟩ := hC
  cases st with
  | nil => exact nos h
  | cons v0 st =>
    cases v0 with
    | long x =>
      cases st with
      | nil => exact nos h
      | cons v1 st =>
        cases v1 with
        | int i =>
          cases st with
          | nil => exact nos h
          | cons v2 st =>
            cases v2 with
            | ref a =>
              cases hh : hp.2 a with
              | inr y => simp only [act, hh] at h; exact nos h
              | inl y =>
                obtain ⟨t, n, f⟩ := y
                rcases f with f | f | f | f | f
                · simp only [act, hh] at h; exact nos h
                · by_cases hc : t = 3 ∧ 1 ≤ a ∧ a ≤ hp.1 ∧ ¬ (i < 0 ∨ n ≤ i.toNatClampNeg)
                  · have h1 : (some (Sum.inl (pc + 1, ls, st, bc, bs, setHp hp a (Sum.inl (t, n, .inr (.inl (vp_updL f i.toNatClampNeg x)))))) : Option Act) = some (Sum.inl (pc', ls', st', bc', bs', hp')) := by simp only [act, hh, if_pos hc] at h; exact h
                    cases h1
                    intro H locs lsr ad cells slots hR z1 z2
                    obtain ⟨⟨hP, hD, hS⟩, r2, ⟨r3, r4⟩, r5, r6⟩ := hR
                    obtain ⟨rfl, o2, o3, hin⟩ := hc
                    have he := wl_get (ad := ad) (tA := tA) o2 o3
                    rw [hh] at he
                    obtain ⟨r6a, L, xs, r6b, r6c⟩ := r6
                    refine va_last hx hb hF.1 hP hD hS (a - 1) 3 he rfl hin hd (fun H1 locs1 hP1 hD1 hS1 => ?_)
                    rw [show (Sum.inl (tA 3, n, .inr (.inl (vp_updL f i.toNatClampNeg x))) : va_E) = trE ad tA (Sum.inl (3, n, .inr (.inl (vp_updL f i.toNatClampNeg x)))) from rfl, ← wl_set o2 o3] at hP1 hD1
                    exact hk H1 locs1 lsr ad cells slots ⟨⟨hP1, hD1, hS1⟩, okH_set r2 trivial, ⟨ok_tl (ok_tl (ok_tl r3)), r4⟩, r5, r6a, L, xs, ((set_0 o2).trans r6b), r6c⟩ z1 z2
                  · simp only [act, hh, if_neg hc] at h
                    exact nos h
                · simp only [act, hh] at h; exact nos h
                · simp only [act, hh] at h; exact nos h
                · simp only [act, hh] at h; exact nos h
            | _ => exact nos h
        | _ => exact nos h
    | _ => exact nos h
theorem n_daload (hC : Cx p l R s m meth c k lo D tA) (hd : decode (mB k) pc = .ok (.daload, 1)) (h : act k .daload pc ls st bc bs hp = some (.inl (pc', ls', st', bc', bs', hp'))) (hk : Wg p l e R s m args below meth c Q D tA lo k ad0 n0 pc' ls' st' bc' bs' hp') : Wg p l e R s m args below meth c Q D tA lo k ad0 n0 pc ls st bc bs hp := by
  obtain ⟨⟨hx, hb, hown, hml⟩, ⟨hlk, hr, hmn, hxt⟩, hF, hZ, hlo, hrm, htr⟩ := hC
  cases st with
  | nil => exact nos h
  | cons v0 st =>
    cases v0 with
    | int i =>
      cases st with
      | nil => exact nos h
      | cons v1 st =>
        cases v1 with
        | ref a =>
          cases hh : hp.2 a with
          | inr y => simp only [act, hh] at h; exact nos h
          | inl y =>
            obtain ⟨t, n, f⟩ := y
            rcases f with f | f | f | f | f
            · simp only [act, hh] at h; exact nos h
            · simp only [act, hh] at h; exact nos h
            · simp only [act, hh] at h; exact nos h
            · by_cases hc : t = 4 ∧ 1 ≤ a ∧ a ≤ hp.1 ∧ ¬ (i < 0 ∨ n ≤ i.toNatClampNeg)
              · have h1 : (some (Sum.inl (pc + 1, ls, .double (f i.toNatClampNeg) :: st, bc, bs, hp)) : Option Act) = some (Sum.inl (pc', ls', st', bc', bs', hp')) := by simp only [act, hh, if_pos hc] at h; exact h
                cases h1
                intro H locs lsr ad cells slots hR z1 z2
                obtain ⟨⟨hP, hD, hS⟩, r2, ⟨r3, r4⟩, r5, r6⟩ := hR
                obtain ⟨rfl, o2, o3, hin⟩ := hc
                have he := wl_get (ad := ad) (tA := tA) o2 o3
                rw [hh] at he
                exact va_dald hx hb hF.1 hP (a - 1) 4 he rfl hin hd (hk H locs lsr ad cells slots ⟨⟨hP, hD, hS⟩, r2, ⟨ok_cs trivial (ok_tl (ok_tl r3)), r4⟩, r5, r6⟩ z1 z2)
              · simp only [act, hh, if_neg hc] at h
                exact nos h
            · simp only [act, hh] at h; exact nos h
        | _ => exact nos h
    | _ => exact nos h
theorem n_dastore (hC : Cx p l R s m meth c k lo D tA) (hd : decode (mB k) pc = .ok (.dastore, 1)) (h : act k .dastore pc ls st bc bs hp = some (.inl (pc', ls', st', bc', bs', hp'))) (hk : Wg p l e R s m args below meth c Q D tA lo k ad0 n0 pc' ls' st' bc' bs' hp') : Wg p l e R s m args below meth c Q D tA lo k ad0 n0 pc ls st bc bs hp := by
  obtain ⟨⟨hx, hb, hown, hml⟩, ⟨hlk, hr, hmn, hxt⟩, hF, hZ, hlo, hrm, htr⟩ := hC
  cases st with
  | nil => exact nos h
  | cons v0 st =>
    cases v0 with
    | double x =>
      cases st with
      | nil => exact nos h
      | cons v1 st =>
        cases v1 with
        | int i =>
          cases st with
          | nil => exact nos h
          | cons v2 st =>
            cases v2 with
            | ref a =>
              cases hh : hp.2 a with
              | inr y => simp only [act, hh] at h; exact nos h
              | inl y =>
                obtain ⟨t, n, f⟩ := y
                rcases f with f | f | f | f | f
                · simp only [act, hh] at h; exact nos h
                · simp only [act, hh] at h; exact nos h
                · simp only [act, hh] at h; exact nos h
                · by_cases hc : t = 4 ∧ 1 ≤ a ∧ a ≤ hp.1 ∧ ¬ (i < 0 ∨ n ≤ i.toNatClampNeg)
                  · have h1 : (some (Sum.inl (pc + 1, ls, st, bc, bs, setHp hp a (Sum.inl (t, n, .inr (.inr (.inr (.inl (vf_upd f i.toNatClampNeg x)))))))) : Option Act) = some (Sum.inl (pc', ls', st', bc', bs', hp')) := by simp only [act, hh, if_pos hc] at h; exact h
                    cases h1
                    intro H locs lsr ad cells slots hR z1 z2
                    obtain ⟨⟨hP, hD, hS⟩, r2, ⟨r3, r4⟩, r5, r6⟩ := hR
                    obtain ⟨rfl, o2, o3, hin⟩ := hc
                    have he := wl_get (ad := ad) (tA := tA) o2 o3
                    rw [hh] at he
                    obtain ⟨r6a, L, xs, r6b, r6c⟩ := r6
                    refine va_dast hx hb hF.1 hP hD hS (a - 1) 4 he rfl hin hd (fun H1 locs1 hP1 hD1 hS1 => ?_)
                    rw [show (Sum.inl (tA 4, n, .inr (.inr (.inr (.inl (vf_upd f i.toNatClampNeg x))))) : va_E) = trE ad tA (Sum.inl (4, n, .inr (.inr (.inr (.inl (vf_upd f i.toNatClampNeg x)))))) from rfl, ← wl_set o2 o3] at hP1 hD1
                    exact hk H1 locs1 lsr ad cells slots ⟨⟨hP1, hD1, hS1⟩, okH_set r2 trivial, ⟨ok_tl (ok_tl (ok_tl r3)), r4⟩, r5, r6a, L, xs, ((set_0 o2).trans r6b), r6c⟩ z1 z2
                  · simp only [act, hh, if_neg hc] at h
                    exact nos h
                · simp only [act, hh] at h; exact nos h
            | _ => exact nos h
        | _ => exact nos h
    | _ => exact nos h
theorem tag_ty {tA : Nat → ClassId} {t : Nat} (h5 : 5 ≤ t) (h8 : t ≤ 8) : ∃ C : String, (tysOf tA)[t]? = some (tA t, .object C) := by
  rcases (show t = 5 ∨ t = 6 ∨ t = 7 ∨ t = 8 by omega) with rfl | rfl | rfl | rfl
  · exact ⟨_, rfl⟩
  · exact ⟨_, rfl⟩
  · exact ⟨_, rfl⟩
  · exact ⟨_, rfl⟩
theorem tag_any {tA : Nat → ClassId} {t : Nat} (h8 : t ≤ 8) : ∃ ty : FieldType, (tysOf tA)[t]? = some (tA t, ty) := by
  rcases (show t = 0 ∨ t = 1 ∨ t = 2 ∨ t = 3 ∨ t = 4 ∨ t = 5 ∨ t = 6 ∨ t = 7 ∨ t = 8 by omega) with rfl | rfl | rfl | rfl | rfl | rfl | rfl | rfl | rfl
  all_goals exact ⟨_, rfl⟩
theorem tag_cls {tA : Nat → ClassId} {t ci : Nat} (h : arTag ci = some t) : ci < 9 ∧ (tysOf tA)[t]? = some (tA t, .object (rF ci)) := by
  have h2 := lookup_mem h
  simp only [List.mem_cons, Prod.mk.injEq, List.not_mem_nil, or_false] at h2
  rcases h2 with ⟨rfl, rfl⟩ | ⟨rfl, rfl⟩ | ⟨rfl, rfl⟩ | ⟨rfl, rfl⟩
  all_goals exact ⟨by decide, rfl⟩
theorem n_aaload (hC : Cx p l R s m meth c k lo D tA) (hd : decode (mB k) pc = .ok (.aaload, 1)) (h : act k .aaload pc ls st bc bs hp = some (.inl (pc', ls', st', bc', bs', hp'))) (hk : Wg p l e R s m args below meth c Q D tA lo k ad0 n0 pc' ls' st' bc' bs' hp') : Wg p l e R s m args below meth c Q D tA lo k ad0 n0 pc ls st bc bs hp := by
  obtain ⟨⟨hx, hb, hown, hml⟩, ⟨hlk, hr, hmn, hxt⟩, hF, hZ, hlo, hrm, htr⟩ := hC
  cases st with
  | nil => exact nos h
  | cons v0 st =>
    cases v0 with
    | int i =>
      cases st with
      | nil => exact nos h
      | cons v1 st =>
        cases v1 with
        | ref a =>
          cases hh : hp.2 a with
          | inr y => simp only [act, hh] at h; exact nos h
          | inl y =>
            obtain ⟨t, n, f⟩ := y
            rcases f with f | f | f | f | f
            · simp only [act, hh] at h; exact nos h
            · simp only [act, hh] at h; exact nos h
            · simp only [act, hh] at h; exact nos h
            · simp only [act, hh] at h; exact nos h
            · by_cases hc : (5 ≤ t ∧ t ≤ 8) ∧ 1 ≤ a ∧ a ≤ hp.1 ∧ ¬ (i < 0 ∨ n ≤ i.toNatClampNeg)
              · cases hv : f i.toNatClampNeg with
                | none => simp only [act, hh, if_pos hc, hv] at h; exact nos h
                | some r =>
                  have h1 : (some (Sum.inl (pc + 1, ls, .ref r :: st, bc, bs, hp)) : Option Act) = some (Sum.inl (pc', ls', st', bc', bs', hp')) := by simp only [act, hh, if_pos hc, hv] at h; exact h
                  cases h1
                  intro H locs lsr ad cells slots hR z1 z2
                  obtain ⟨⟨hP, hD, hS⟩, r2, ⟨r3, r4⟩, r5, r6⟩ := hR
                  obtain ⟨⟨t5, t8⟩, o2, o3, hin⟩ := hc
                  have he := wl_get (ad := ad) (tA := tA) o2 o3
                  rw [hh] at he
                  obtain ⟨C, hC⟩ := tag_ty (tA := tA) t5 t8
                  have hok := r2 a o2 o3
                  rw [hh] at hok
                  refine va_aldq hx hb hF.1 hP (a - 1) t he hC hin hd ?_
                  rw [hv]
                  exact hk H locs lsr ad cells slots ⟨⟨hP, hD, hS⟩, r2, ⟨ok_cs (hok _ _ hv) (ok_tl (ok_tl r3)), r4⟩, r5, r6⟩ z1 z2
              · simp only [act, hh, if_neg hc] at h
                exact nos h
        | _ => exact nos h
    | _ => exact nos h
theorem n_aastore (hC : Cx p l R s m meth c k lo D tA) (hd : decode (mB k) pc = .ok (.aastore, 1)) (h : act k .aastore pc ls st bc bs hp = some (.inl (pc', ls', st', bc', bs', hp'))) (hk : Wg p l e R s m args below meth c Q D tA lo k ad0 n0 pc' ls' st' bc' bs' hp') : Wg p l e R s m args below meth c Q D tA lo k ad0 n0 pc ls st bc bs hp := by
  obtain ⟨⟨hx, hb, hown, hml⟩, ⟨hlk, hr, hmn, hxt⟩, hF, hZ, hlo, hrm, htr⟩ := hC
  cases st with
  | nil => exact nos h
  | cons v0 st =>
    cases v0 with
    | ref v =>
      cases st with
      | nil => exact nos h
      | cons v1 st =>
        cases v1 with
        | int i =>
          cases st with
          | nil => exact nos h
          | cons v2 st =>
            cases v2 with
            | ref a =>
              cases hh : hp.2 a with
              | inr y => simp only [act, hh] at h; exact nos h
              | inl y =>
                obtain ⟨t, n, f⟩ := y
                rcases f with f | f | f | f | f
                · simp only [act, hh] at h; exact nos h
                · simp only [act, hh] at h; exact nos h
                · simp only [act, hh] at h; exact nos h
                · simp only [act, hh] at h; exact nos h
                · cases hv : hp.2 v with
                  | inl y => simp only [act, hh, hv] at h; exact nos h
                  | inr y =>
                    obtain ⟨ci, vs⟩ := y
                    by_cases hc : arTag ci = some t ∧ (1 ≤ v ∧ v ≤ hp.1) ∧ 1 ≤ a ∧ a ≤ hp.1 ∧ ¬ (i < 0 ∨ n ≤ i.toNatClampNeg)
                    · have h1 : (some (Sum.inl (pc + 1, ls, st, bc, bs, setHp hp a (Sum.inl (t, n, .inr (.inr (.inr (.inr (va_up f i.toNatClampNeg (some v))))))))) : Option Act) = some (Sum.inl (pc', ls', st', bc', bs', hp')) := by simp only [act, hh, hv, if_pos hc] at h; exact h
                      cases h1
                      intro H locs lsr ad cells slots hR z1 z2
                      obtain ⟨⟨hP, hD, hS⟩, r2, ⟨r3, r4⟩, r5, r6⟩ := hR
                      obtain ⟨ht, ⟨v2, v3⟩, o2, o3, hin⟩ := hc
                      have he := wl_get (ad := ad) (tA := tA) o2 o3
                      rw [hh] at he
                      have hw := wl_get (ad := ad) (tA := tA) v2 v3
                      rw [hv] at hw
                      obtain ⟨c9, hty⟩ := tag_cls (tA := tA) ht
                      obtain ⟨r6a, L, xs, r6b, r6c⟩ := r6
                      have hok := r2 a o2 o3
                      rw [hh] at hok
                      refine va_astq (r := (rF ci, tF ci, nF ci)) hx hb hF.1 hP hD hS (a - 1) t (v - 1) ci he hty hw (cls_row ci c9) hin hd (fun H1 locs1 hP1 hD1 hS1 => ?_)
                      have hfe : va_up (fun j => (f j).map ad) i.toNatClampNeg (some (ad v)) = fun j => (va_up f i.toNatClampNeg (some v) j).map ad := by
                        funext j
                        by_cases hj : j = i.toNatClampNeg
                        · simp [va_up, hj]
                        · simp [va_up, hj]
                      rw [hfe, show (Sum.inl (tA t, n, .inr (.inr (.inr (.inr (fun j => (va_up f i.toNatClampNeg (some v) j).map ad))))) : va_E) = trE ad tA (Sum.inl (t, n, .inr (.inr (.inr (.inr (va_up f i.toNatClampNeg (some v))))))) from rfl, ← wl_set o2 o3] at hP1 hD1
                      have hok2 : okE hp.1 (Sum.inl (t, n, .inr (.inr (.inr (.inr (va_up f i.toNatClampNeg (some v))))))) := by
                        intro j r hj
                        simp only [va_up] at hj
                        by_cases hji : j = i.toNatClampNeg
                        · rw [if_pos hji] at hj; cases hj; exact v3
                        · rw [if_neg hji] at hj; exact hok j r hj
                      exact hk H1 locs1 lsr ad cells slots ⟨⟨hP1, hD1, hS1⟩, okH_set r2 hok2, ⟨ok_tl (ok_tl (ok_tl r3)), r4⟩, r5, r6a, L, xs, ((set_0 o2).trans r6b), r6c⟩ z1 z2
                    · simp only [act, hh, hv, if_neg hc] at h
                      exact nos h
            | _ => exact nos h
        | _ => exact nos h
    | _ => exact nos h
theorem n_alen (hC : Cx p l R s m meth c k lo D tA) (hd : decode (mB k) pc = .ok (.arraylength, 1)) (h : act k .arraylength pc ls st bc bs hp = some (.inl (pc', ls', st', bc', bs', hp'))) (hk : Wg p l e R s m args below meth c Q D tA lo k ad0 n0 pc' ls' st' bc' bs' hp') : Wg p l e R s m args below meth c Q D tA lo k ad0 n0 pc ls st bc bs hp := by
  obtain ⟨⟨hx, hb, hown, hml⟩, ⟨hlk, hr, hmn, hxt⟩, hF, hZ, hlo, hrm, htr⟩ := hC
  cases st with
  | nil => exact nos h
  | cons v0 st =>
    cases v0 with
    | ref a =>
      cases hh : hp.2 a with
      | inr y => simp only [act, hh] at h; exact nos h
      | inl y =>
        obtain ⟨t, n, f⟩ := y
        by_cases hc : t ≤ 8 ∧ (a = 0 → t = 0) ∧ a ≤ hp.1
        · have h1 : (some (Sum.inl (pc + 1, ls, .int (Int32.ofNat n) :: st, bc, bs, hp)) : Option Act) = some (Sum.inl (pc', ls', st', bc', bs', hp')) := by simp only [act, hh, if_pos hc] at h; exact h
          cases h1
          intro H locs lsr ad cells slots hR z1 z2
          obtain ⟨⟨hP, hD, hS⟩, r2, ⟨r3, r4⟩, r5, r6⟩ := hR
          obtain ⟨t8, t0, o3⟩ := hc
          have fin := hk H locs lsr ad cells slots ⟨⟨hP, hD, hS⟩, r2, ⟨ok_cs trivial (ok_tl r3), r4⟩, r5, r6⟩ z1 z2
          by_cases ha : 1 ≤ a
          · have he := wl_get (ad := ad) (tA := tA) ha o3
            rw [hh] at he
            obtain ⟨ty, hty⟩ := tag_any (tA := tA) t8
            rcases f with f | f | f | f | f
            all_goals exact va_alen hx hb hF.1 hP (a - 1) t he hty rfl hd fin
          · have ha0 : a = 0 := Nat.lt_one_iff.mp (Nat.lt_of_not_le ha)
            subst ha0
            obtain ⟨-, L, xs, r6b, r6c, r6d⟩ := r6
            rw [hh] at r6b
            cases r6b
            exact va_slen hx hb r6c (Nat.lt_of_lt_of_le r6d hlo) (fun q => absurd r6d (Nat.not_lt.mpr q)) hS hd fin
        · simp only [act, hh, if_neg hc] at h
          exact nos h
    | _ => exact nos h
end MEM
