/-! the small machine's cells and values on the real one: ad gives a cell's address, tA an array tag's class -/
def tr (ad : Nat → Nat) : Value → Value
  | .ref i => .ref (ad i)
  | v => v
def trE (ad : Nat → Nat) (tA : Nat → ClassId) : va_E → va_E
  | .inl (t, n, .inl f) => .inl (tA t, n, .inl f)
  | .inl (t, n, .inr (.inl f)) => .inl (tA t, n, .inr (.inl f))
  | .inl (t, n, .inr (.inr (.inl f))) => .inl (tA t, n, .inr (.inr (.inl f)))
  | .inl (t, n, .inr (.inr (.inr (.inl f)))) => .inl (tA t, n, .inr (.inr (.inr (.inl f))))
  | .inl (t, n, .inr (.inr (.inr (.inr f)))) => .inl (tA t, n, .inr (.inr (.inr (.inr (fun i => (f i).map ad)))))
  | .inr (ci, fs) => .inr (ci, fs.map (tr ad))
def wl (ad : Nat → Nat) (tA : Nat → ClassId) (hp : Hp) : va_W := (List.range hp.1).map fun i => (ad (i + 1), trE ad tA (hp.2 (i + 1)))
def okv (n : Nat) : Value → Prop
  | .ref i => i ≤ n
  | _ => True
def okE (n : Nat) : va_E → Prop
  | .inl (_, _, .inr (.inr (.inr (.inr f)))) => ∀ (i r : Nat), f i = some r → r ≤ n
  | .inl _ => True
  | .inr (_, fs) => ∀ v ∈ fs, okv n v
def okH (hp : Hp) : Prop := ∀ a, 1 ≤ a → a ≤ hp.1 → okE hp.1 (hp.2 a)
theorem tr_cat {ad : Nat → Nat} {v : Value} : (tr ad v).category = v.category := by cases v <;> rfl
theorem tr_sum {ad : Nat → Nat} {st : List Value} : ((st.map (tr ad)).map fun v => v.category).sum = nsum st := by
  induction st with
  | nil => rfl
  | cons v st ih =>
    simp only [List.map_cons, List.sum_cons, tr_cat, nsum] at ih ⊢
    rw [ih]
theorem wl_get {ad : Nat → Nat} {tA : Nat → ClassId} {hp : Hp} {a : Nat} (h1 : 1 ≤ a) (h2 : a ≤ hp.1) : (wl ad tA hp)[a - 1]? = some (ad a, trE ad tA (hp.2 a)) := by
  simp only [wl, List.getElem?_map, List.getElem?_range (show a - 1 < hp.1 by omega), Option.map_some, show a - 1 + 1 = a by omega]
theorem wl_len {ad : Nat → Nat} {tA : Nat → ClassId} {hp : Hp} : (wl ad tA hp).length = hp.1 := by simp [wl]
theorem wl_set {ad : Nat → Nat} {tA : Nat → ClassId} {hp : Hp} {a : Nat} {e : va_E} (h1 : 1 ≤ a) (_h2 : a ≤ hp.1) : wl ad tA (setHp hp a e) = (wl ad tA hp).set (a - 1) (ad a, trE ad tA e) := by
  apply List.ext_getElem?
  intro i
  rw [List.getElem?_set]
  by_cases hi : i < hp.1
  · have g1 : (wl ad tA (setHp hp a e))[i]? = some (ad (i + 1), trE ad tA ((setHp hp a e).2 (i + 1))) := by
      simp [wl, setHp, hi]
    have g2 : (wl ad tA hp)[i]? = some (ad (i + 1), trE ad tA (hp.2 (i + 1))) := by simp [wl, hi]
    rw [g1, g2]
    by_cases hia : a - 1 = i
    · have : i + 1 = a := by omega
      simp [hia, wl_len, hi, setHp, va_up, this]
    · have : ¬ i + 1 = a := by omega
      simp [hia, setHp, va_up, this]
  · have g1 : (wl ad tA (setHp hp a e))[i]? = none := by simp [wl, setHp]; omega
    have g2 : (wl ad tA hp)[i]? = none := by simp [wl]; omega
    rw [g1, g2]
    by_cases hia : a - 1 = i
    · simp [hia, wl_len, hi]
    · simp [hia]
theorem tr_eq {ad ad' : Nat → Nat} {n : Nat} (h : ∀ i, i ≤ n → ad' i = ad i) {v : Value} (hv : okv n v) : tr ad' v = tr ad v := by
  cases v with
  | ref i => exact congrArg Value.ref (h i hv)
  | _ => rfl
theorem trE_eq {ad ad' : Nat → Nat} {tA : Nat → ClassId} {n : Nat} (h : ∀ i, i ≤ n → ad' i = ad i) {e : va_E} (he : okE n e) : trE ad' tA e = trE ad tA e := by
  rcases e with ⟨t, N, f | f | f | f | f⟩ | ⟨ci, fs⟩
  · rfl
  · rfl
  · rfl
  · rfl
  · simp only [trE]
    have : (fun i => (f i).map ad') = fun i => (f i).map ad := by
      funext i
      cases hf : f i with
      | none => rfl
      | some r => simp [h r (he i r hf)]
    rw [this]
  · simp only [trE]
    have : fs.map (tr ad') = fs.map (tr ad) := List.map_congr_left fun v hv => tr_eq h (he v hv)
    rw [this]
theorem st_eq {ad ad' : Nat → Nat} {n : Nat} (h : ∀ i, i ≤ n → ad' i = ad i) {st : List Value} (hv : ∀ v ∈ st, okv n v) : st.map (tr ad') = st.map (tr ad) := List.map_congr_left fun v hx => tr_eq h (hv v hx)
theorem wl_add {ad : Nat → Nat} {tA : Nat → ClassId} {hp : Hp} {q : Nat} {e : va_E} (hok : okH hp) : wl (va_up ad (hp.1 + 1) q) tA (addHp hp e) = wl ad tA hp ++ [(q, trE (va_up ad (hp.1 + 1) q) tA e)] := by
  have hag : ∀ i, i ≤ hp.1 → va_up ad (hp.1 + 1) q i = ad i := fun i hi => by simp [va_up]; intro h; omega
  apply List.ext_getElem?
  intro i
  rw [List.getElem?_append, wl_len]
  by_cases hi : i < hp.1
  · rw [if_pos hi]
    have g2 : (wl ad tA hp)[i]? = some (ad (i + 1), trE ad tA (hp.2 (i + 1))) := by simp [wl, hi]
    rw [g2]
    have : ¬ i = hp.1 := by omega
    simp only [wl, addHp, List.getElem?_map, List.getElem?_range (show i < hp.1 + 1 by omega), Option.map_some, va_up, Nat.add_right_cancel_iff, if_neg this]
    rw [trE_eq hag (hok (i + 1) (by omega) (by omega))]
  · rw [if_neg hi]
    by_cases he : i = hp.1
    · subst he
      simp only [wl, addHp, List.getElem?_map, List.getElem?_range (Nat.lt_succ_self _), Option.map_some, Nat.sub_self, List.getElem?_cons_zero, va_up, if_true]
    · have g1 : (wl (va_up ad (hp.1 + 1) q) tA (addHp hp e))[i]? = none := by simp [wl, addHp]; omega
      rw [g1]
      symm
      rw [List.getElem?_eq_none_iff]
      simp; omega
theorem okv_mono {n m : Nat} (h : n ≤ m) {v : Value} (hv : okv n v) : okv m v := by
  cases v with
  | ref i => exact Nat.le_trans hv h
  | _ => exact hv
theorem okE_mono {n m : Nat} (h : n ≤ m) {e : va_E} (he : okE n e) : okE m e := by
  rcases e with ⟨t, N, f | f | f | f | f⟩ | ⟨ci, fs⟩
  · trivial
  · trivial
  · trivial
  · trivial
  · exact fun i r hr => Nat.le_trans (he i r hr) h
  · exact fun v hv => okv_mono h (he v hv)
theorem okH_set {hp : Hp} {a : Nat} {e : va_E} (h : okH hp) (he : okE hp.1 e) : okH (setHp hp a e) := by
  intro b h1 h2
  simp only [setHp, va_up]
  by_cases hb : b = a
  · rw [if_pos hb]; exact he
  · rw [if_neg hb]; exact h b h1 h2
theorem okH_add {hp : Hp} {e : va_E} (h : okH hp) (he : okE (hp.1 + 1) e) : okH (addHp hp e) := by
  intro b h1 h2
  simp only [addHp, va_up] at h2 ⊢
  by_cases hb : b = hp.1 + 1
  · rw [if_pos hb]; exact he
  · rw [if_neg hb]; exact okE_mono (Nat.le_succ _) (h b h1 (by omega))
/-! locals -/
def ascL (ad : Nat → Nat) (ls : List Value) : List (Nat × Value) := (List.range ls.length).filterMap fun (j : Nat) => match (ls[j]? : Option Value) with
  | some Value.null => none
  | some v => some (j, tr ad v)
  | none => none
def LR (ad : Nat → Nat) (nL : Nat) (ls : List Value) (lsr : Array Slot) : Prop := ls.length = nL ∧ lsr.size = nL ∧ lv_wf lsr ∧ ∀ (j : Nat) (v : Value), ls[j]? = some v → v ≠ .null → lsr[j]? = some (.val (tr ad v))
theorem mem_ascL {ad : Nat → Nat} {ls : List Value} {j : Nat} {v : Value} (h : ls[j]? = some v) (hv : v ≠ .null) : (j, tr ad v) ∈ ascL ad ls := by
  refine List.mem_filterMap.mpr ⟨j, List.mem_range.mpr (List.getElem?_eq_some_iff.mp h).1, ?_⟩
  rw [h]
  cases v <;> first | rfl | exact absurd rfl hv
theorem LR.has {ad : Nat → Nat} {nL : Nat} {ls : List Value} {lsr : Array Slot} (h : LR ad nL ls lsr) : lv_has lsr nL (ascL ad ls) := by
  refine ⟨h.2.1, h.2.2.1, fun q hq => ?_⟩
  obtain ⟨j, -, hj⟩ := List.mem_filterMap.mp hq
  cases hl : ls[j]? with
  | none => rw [hl] at hj; cases hj
  | some v =>
    rw [hl] at hj
    have hv : v ≠ .null := fun e => by rw [e] at hj; cases hj
    have : q = (j, tr ad v) := by
      cases v <;> first | exact (Option.some.inj hj).symm | exact absurd rfl hv
    rw [this]
    exact h.2.2.2 j v hl hv
theorem LR.at {ad : Nat → Nat} {nL : Nat} {ls : List Value} {lsr : Array Slot} (h : LR ad nL ls lsr) {j : Nat} {v : Value} (hj : ls[j]? = some v) (hv : v ≠ .null) : lsr[j]? = some (.val (tr ad v)) := h.2.2.2 j v hj hv
theorem LR.eq {ad ad' : Nat → Nat} {n nL : Nat} {ls : List Value} {lsr : Array Slot} (h : LR ad nL ls lsr) (hag : ∀ i, i ≤ n → ad' i = ad i) (hok : ∀ v ∈ ls, okv n v) : LR ad' nL ls lsr :=
  ⟨h.1, h.2.1, h.2.2.1, fun j v hj hv => by rw [tr_eq hag (hok v (List.mem_of_getElem? hj))]; exact h.2.2.2 j v hj hv⟩
theorem pok_cat {ls : List Value} {i j : Nat} {v : Value} (hp : pok ls j = true) (hi : i + 1 = j) (hv : ls[i]? = some v) : v.category = 1 := by
  subst hi
  have h := of_decide_eq_true hp
  rw [List.getD_eq_getElem?_getD, hv] at h
  exact h
theorem LR.st1 {ad : Nat → Nat} {nL : Nat} {ls : List Value} {lsr lsr' : Array Slot} (h : LR ad nL ls lsr) {j : Nat} {v w : Value} (hp : pok ls j = true) (hvw : v = .null ∨ w = tr ad v) (h' : lv_has lsr' nL ((j, w) :: (ascL ad ls).filter (fun q => !(q.1 == j) && !(q.1 + 1 == j && q.2.category == 2)))) : LR ad nL (ls.set j v) lsr' := by
  refine ⟨by rw [List.length_set]; exact h.1, h'.1, h'.2.1, fun i u hi hu => ?_⟩
  rw [List.getElem?_set] at hi
  by_cases hji : j = i
  · subst hji
    rw [if_pos rfl] at hi
    by_cases hl : j < ls.length
    · rw [if_pos hl] at hi
      cases hi
      rcases hvw with e | e
      · exact absurd e hu
      · rw [← e]; exact h'.2.2 (j, w) List.mem_cons_self
    · rw [if_neg hl] at hi; cases hi
  · rw [if_neg hji] at hi
    refine h'.2.2 (i, tr ad u) (List.mem_cons_of_mem _ (List.mem_filter.mpr ⟨mem_ascL hi hu, ?_⟩))
    simp only [Bool.and_eq_true, Bool.not_eq_true', beq_eq_false_iff_ne, ne_eq, Bool.and_eq_false_iff]
    refine ⟨fun e => hji e.symm, ?_⟩
    by_cases h1 : i + 1 = j
    · right
      rw [tr_cat, pok_cat hp h1 hi]; decide
    · exact Or.inl h1
theorem LR.st2 {ad : Nat → Nat} {nL : Nat} {ls : List Value} {lsr lsr' : Array Slot} (h : LR ad nL ls lsr) {j : Nat} {v : Value} (hp : pok ls j = true) (h' : lv_has lsr' nL ((j, tr ad v) :: (ascL ad ls).filter (fun q => !(q.1 == j) && (!(q.1 == j + 1) && !(q.1 + 1 == j && q.2.category == 2))))) : LR ad nL ((ls.set j v).set (j + 1) .null) lsr' := by
  refine ⟨by rw [List.length_set, List.length_set]; exact h.1, h'.1, h'.2.1, fun i u hi hu => ?_⟩
  rw [List.getElem?_set] at hi
  by_cases h2 : j + 1 = i
  · rw [if_pos h2] at hi
    split at hi
    · cases hi; exact absurd rfl hu
    · cases hi
  · rw [if_neg h2, List.getElem?_set] at hi
    by_cases hji : j = i
    · subst hji
      rw [if_pos rfl] at hi
      by_cases hl : j < ls.length
      · rw [if_pos hl] at hi
        cases hi
        exact h'.2.2 _ List.mem_cons_self
      · rw [if_neg hl] at hi; cases hi
    · rw [if_neg hji] at hi
      refine h'.2.2 (i, tr ad u) (List.mem_cons_of_mem _ (List.mem_filter.mpr ⟨mem_ascL hi hu, ?_⟩))
      simp only [Bool.and_eq_true, Bool.not_eq_true', beq_eq_false_iff_ne, ne_eq, Bool.and_eq_false_iff]
      refine ⟨fun e => hji e.symm, fun e => h2 e.symm, ?_⟩
      by_cases h1 : i + 1 = j
      · right
        rw [tr_cat, pok_cat hp h1 hi]; decide
      · exact Or.inl h1
theorem lv_args_mem : ∀ (vs : List Value) (i j : Nat) (v : Value), (∀ w ∈ vs, w.category = 1) → vs[j]? = some v → (i + j, v) ∈ lv_args i vs
  | [], i, j, v, _, h => by simp at h
  | w :: vs, i, j, v, hc, h => by
    have hw : ¬ w.category = 2 := by rw [hc w List.mem_cons_self]; decide
    rw [lv_args, if_neg hw]
    cases j with
    | zero => rw [List.getElem?_cons_zero] at h; cases h; exact List.mem_cons_self
    | succ j =>
      rw [List.getElem?_cons_succ] at h
      have := lv_args_mem vs (i + 1) j v (fun w hw => hc w (List.mem_cons_of_mem _ hw)) h
      rw [show i + (j + 1) = i + 1 + j by omega]
      exact List.mem_cons_of_mem _ this
theorem LR.ini {ad : Nat → Nat} {k : Nat} {as : List Value} {lsr : Array Slot} (hc : ∀ w ∈ as, w.category = 1) (hl : as.length ≤ mL k) (h : lv_has lsr (mL k) (lv_args 0 (as.map (tr ad)))) : LR ad (mL k) (iniL k as) lsr := by
  refine ⟨by simp [iniL]; omega, h.1, h.2.1, fun j v hj hv => ?_⟩
  rw [iniL, List.getElem?_append] at hj
  split at hj
  next hlt =>
    have := lv_args_mem (as.map (tr ad)) 0 j (tr ad v) (fun w hw => by
      obtain ⟨u, hu, rfl⟩ := List.mem_map.mp hw
      rw [tr_cat]; exact hc u hu) (by rw [List.getElem?_map, hj]; rfl)
    rw [Nat.zero_add] at this
    exact h.2.2 _ this
  next hlt =>
    rw [List.getElem?_replicate] at hj
    split at hj
    · cases hj; exact absurd rfl hv
    · cases hj
