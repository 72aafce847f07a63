/-! a whole run of the small machine on the real one -/
def rmK (k : Nat) : Room := { frames := 7 + hgt k, cells := mcT k, slots := msT k, locals := 200 + 60 * hgt k }
/-- what a run leaves -/
def En (D : va_G) (tA : Nat → ClassId) (lo : Nat) (ad0 : Nat → Nat) (n0 : Nat) (hp' : Hp) (ad : Nat → Nat) (st t : State) : Prop :=
  ((∀ i, i ≤ n0 → ad i = ad0 i) ∧ n0 ≤ hp'.1) ∧ (va_P D vw9 (wl ad tA hp') t.heap ∧ va_D (loA lo) (wl ad tA hp')) ∧ okH hp' ∧ (∃ (L : Nat) (xs : Nat → Int32), hp'.2 0 = .inl (0, L, .inl xs) ∧ va_X (ad 0) L xs t t.heap ∧ ad 0 < lo) ∧ va_F (loA lo) st t
def Qp (D : va_G) (tA : Nat → ClassId) (lo : Nat) (ad0 : Nat → Nat) (n0 : Nat) (out : Out) (hp' : Hp) : Array Value → State → Outcome → State → Prop := fun _ st o t =>
  ∃ (v : Option Value) (ad : Nat → Nat), out = .inl v ∧ o = .returned (v.map (tr ad)) ∧ (∀ w, v = some w → okv hp'.1 w) ∧ En D tA lo ad0 n0 hp' ad st t
def Xp (D : va_G) (tA : Nat → ClassId) (lo : Nat) (ad0 : Nat → Nat) (n0 : Nat) (out : Out) (hp' : Hp) : String → State → State → Prop := fun E st t =>
  ∃ (x : Nat) (ad : Nat → Nat), out = .inr x ∧ x < 6 ∧ E = excN x ∧ En D tA lo ad0 n0 hp' ad st t
def Ps (D : va_G) (tA : Nat → ClassId) (lo : Nat) (ad : Nat → Nat) (hp : Hp) (as : List Value) : State → Prop := fun U =>
  SF D tA U ∧ ZF (loA lo) U U.heap ∧ lo ≤ U.heap.size ∧ (va_P D vw9 (wl ad tA hp) U.heap ∧ va_D (loA lo) (wl ad tA hp)) ∧ okH hp ∧ (∀ v ∈ as, okv hp.1 v) ∧ ∃ (L : Nat) (xs : Nat → Int32), hp.2 0 = .inl (0, L, .inl xs) ∧ va_X (ad 0) L xs U U.heap ∧ ad 0 < lo
def MTc (l : Launch) (D : va_G) (tA : Nat → ClassId) (lo k : Nat) (as : List Value) (hp : Hp) (ad : Nat → Nat) (out : Out) (hp' : Hp) : Prop :=
  vx_Met l (mY k) [mW k] (rmK k) (va_Pc (as.map (tr ad)) (Ps D tA lo ad hp as)) (Qp D tA lo ad hp.1 out hp') (Xp D tA lo ad hp.1 out hp') (mcT k) (msT k) (loA lo)
section MAIN
variable {p : Program} {l : Launch} {e : Env} {R : Room} {s : State} {m : MethodId} {args : Array Value} {below : List Frame} {meth : Method} {c : Code} {D : va_G} {tA : Nat → ClassId} {lo k : Nat} {ad0 : Nat → Nat} {n0 : Nat}
variable {pc pc' : Nat} {ls ls' st st' : List Value} {bc bs bc' bs' : Nat} {hp hp' : Hp} {out : Out}
/-- the goal of a method's body -/
abbrev Wq (p : Program) (l : Launch) (e : Env) (R : Room) (s : State) (m : MethodId) (args : Array Value) (below : List Frame) (meth : Method) (c : Code) (D : va_G) (tA : Nat → ClassId) (lo k : Nat) (ad0 : Nat → Nat) (n0 : Nat) (out : Out) (hp' : Hp) (pc : Nat) (ls st : List Value) (bc bs : Nat) (hp : Hp) : Prop :=
  Wg p l e R s m args below meth c (vx_MQ below (Qp D tA lo ad0 n0 out hp') (Xp D tA lo ad0 n0 out hp') args s R.cells R.slots (loA lo)) D tA lo k ad0 n0 pc ls st bc bs hp
theorem en_of {ad : Nat → Nat} {H : Heap} {locs : List Loc} {lsr : Array Slot} (hlo : lo ≤ s.heap.size) (hR : Rl s D tA lo k ad0 n0 ad hp ls st H locs lsr) {t : State} (ht : t.heap = H) (hA : s.vm.Alike t.vm) : En D tA lo ad0 n0 hp ad s t := by
  obtain ⟨⟨hP, hD, hS⟩, r2, -, -, r6, L, xs, r7, r8, r9⟩ := hR
  exact ⟨r6, ⟨by rw [ht]; exact hP, hD⟩, r2, ⟨L, xs, r7, va_X.moved hA (r8.kept (by rw [ht]; exact hS.2.1 _ (Nat.lt_of_lt_of_le r9 hlo) (fun q => absurd r9 (Nat.not_lt.mpr q)))), r9⟩, hS.F ht⟩
theorem snd_ret (hdec : Dec) {i : Instr} (hC : Cx p l R s m meth c k lo D tA) (hi : ins k pc = some i) (hr : i = .ireturn ∨ i = .lreturn ∨ i = .freturn ∨ i = .dreturn ∨ i = .areturn ∨ i = .return_) (h : act k i pc ls st bc bs hp = some (.inr (.inl out))) : Wq p l e R s m args below meth c D tA lo k ad0 n0 out hp pc ls st bc bs hp := by
  have hd := hdec k pc i hi
  obtain ⟨⟨hx, hb, hown, hml⟩, ⟨hlk, hrt, hmn, hxt⟩, hF, hZ, hlo, hrm, htr⟩ := hC
  intro H locs lsr ad cells slots hR z1 z2
  have q : ∀ (v : Option Value), (∀ w, v = some w → okv hp.1 w) → ∀ t : State, t.heap = H → s.WarmedH t.vm → Qp D tA lo ad0 n0 (.inl v) hp args s (.returned (v.map (tr ad))) t := fun v hv t ht hW => ⟨v, ad, rfl, rfl, hv, en_of hlo hR ht hW.alike⟩
  have hl := hR.1.2.2.2.2
  refine vx_ret (W.widen (k := R.cells) (n := R.slots) (by omega) (by omega) ?_)
  rcases hr with rfl | rfl | rfl | rfl | rfl | rfl
  · cases st with
    | nil => exact nos h
    | cons v st =>
      cases st with
      | cons w st => cases v <;> exact nos h
      | nil =>
        cases v with
        | int x =>
          by_cases ho : outI k x = true
          · simp only [act, if_pos ho, retO, Option.some.injEq, Sum.inr.injEq, Sum.inl.injEq] at h
            subst h
            have ho2 := ho
            unfold outI at ho2
            cases hm : mR k with
            | none => rw [hm] at ho2; cases ho2
            | some ty =>
              rw [hm] at ho2
              refine W.zret (ty := ty) hx hb (by rw [hrt, hm]) ?_ (q (some (.int x)) (fun w hw => by cases hw; trivial)) hl hd
              cases ty with
              | int => rfl
              | boolean => exact of_decide_eq_true ho2
              | _ => cases ho2
          · simp only [act, if_neg ho] at h; exact nos h
        | _ => exact nos h
  · cases st with
    | nil => exact nos h
    | cons v st =>
      cases st with
      | cons w st => cases v <;> exact nos h
      | nil =>
        cases v with
        | long x =>
          by_cases ho : mR k = some .long
          · simp only [act, if_pos ho, retO, Option.some.injEq, Sum.inr.injEq, Sum.inl.injEq] at h
            subst h
            exact W.lret hx hb (by rw [hrt, ho]) (q (some (.long x)) (fun w hw => by cases hw; trivial)) hl hd
          · simp only [act, if_neg ho] at h; exact nos h
        | _ => exact nos h
  · cases st with
    | nil => exact nos h
    | cons v st =>
      cases st with
      | cons w st => cases v <;> exact nos h
      | nil =>
        cases v with
        | float x =>
          by_cases ho : mR k = some .float
          · simp only [act, if_pos ho, retO, Option.some.injEq, Sum.inr.injEq, Sum.inl.injEq] at h
            subst h
            exact W.fret hx hb (by rw [hrt, ho]) (q (some (.float x)) (fun w hw => by cases hw; trivial)) hl hd
          · simp only [act, if_neg ho] at h; exact nos h
        | _ => exact nos h
  · cases st with
    | nil => exact nos h
    | cons v st =>
      cases st with
      | cons w st => cases v <;> exact nos h
      | nil =>
        cases v with
        | double x =>
          by_cases ho : mR k = some .double
          · simp only [act, if_pos ho, retO, Option.some.injEq, Sum.inr.injEq, Sum.inl.injEq] at h
            subst h
            exact W.dret hx hb (by rw [hrt, ho]) (q (some (.double x)) (fun w hw => by cases hw; trivial)) hl hd
          · simp only [act, if_neg ho] at h; exact nos h
        | _ => exact nos h
  · cases st with
    | nil => exact nos h
    | cons v st =>
      cases st with
      | cons w st => cases v <;> exact nos h
      | nil =>
        cases v with
        | ref x =>
          have hok : okv hp.1 (.ref x) := ok_hd hR.2.2.1.1
          cases hm : mR k with
          | none => simp only [act, hm] at h; exact nos h
          | some ty =>
            cases ty with
            | object C =>
              simp only [act, hm, retO, Option.some.injEq, Sum.inr.injEq, Sum.inl.injEq] at h
              subst h
              exact W.aret hx hb (by rw [hrt, hm]) (Or.inl ⟨C, rfl⟩) (Or.inr ⟨ad x, rfl⟩) (q (some (.ref x)) (fun w hw => by cases hw; exact hok)) hl hd
            | _ => simp only [act, hm] at h; exact nos h
        | _ => exact nos h
  · cases st with
    | cons v st => exact nos h
    | nil =>
      by_cases ho : mR k = none
      · simp only [act, if_pos ho, retO, Option.some.injEq, Sum.inr.injEq, Sum.inl.injEq] at h
        subst h
        exact W.vret hx hb (by rw [hrt, ho]) (q none (fun w hw => by cases hw)) hl hd
      · simp only [act, if_neg ho] at h; exact nos h
theorem spW_tab {w : Cond} (h : spW w = true) : w.onTables = true := by
  cases w with
  | declares x => rfl
  | castable a b => rfl
  | methodLinkNest a i x b => rfl
  | _ => cases h
theorem TX_tab {w : Cond} (h : w ∈ TX) : w.onTables = true := spW_tab (List.mem_filter.mp h).2
theorem TW_ot {w : Cond} (h : w ∈ TW) : vx_ot w = true := by
  unfold vx_ot
  rw [(List.mem_filter.mp h).2, Bool.or_true]
theorem thr_ix : ∀ q ∈ [(23, 27), (327, 331), (223, 227), (129, 133), (144, 148), (308, 312)], ((newT.getD 7 []).lookup q.1).all (fun z => decide (q.2 = thIc z.2)) = true := by decide
theorem thr_spec {k pc x : Nat} (h : throwAt k pc x = true) : ∃ ic : Nat, mO k = 7 ∧ (x, ic) ∈ [(23, 27), (327, 331), (223, 227), (129, 133), (144, 148), (308, 312)] ∧ ins k (pc + 3) = some .dup ∧
    ((∃ sx t, ins k (pc + 4) = some (.ldc sx) ∧ strOf k sx = some t ∧ ins k (pc + 6) = some (.invokespecial ic) ∧ ins k (pc + 9) = some .athrow) ∨
     (∃ sx t, ins k (pc + 4) = some (.ldc_w sx) ∧ strOf k sx = some t ∧ ins k (pc + 7) = some (.invokespecial ic) ∧ ins k (pc + 10) = some .athrow)) := by
  unfold throwAt at h
  split at h
  · rename_i sx h3 h4
    simp only [Bool.and_eq_true] at h
    obtain ⟨q1, q2⟩ := h
    obtain ⟨t, ht⟩ := Option.isSome_iff_exists.mp q1
    split at q2
    · rename_i ic h6 h9
      simp only [thrB, Bool.and_eq_true, decide_eq_true_eq] at q2
      exact ⟨ic, q2.1, q2.2, h3, Or.inl ⟨sx, t, h4, ht, h6, h9⟩⟩
    · cases q2
  · rename_i sx h3 h4
    simp only [Bool.and_eq_true] at h
    obtain ⟨q1, q2⟩ := h
    obtain ⟨t, ht⟩ := Option.isSome_iff_exists.mp q1
    split at q2
    · rename_i ic h6 h9
      simp only [thrB, Bool.and_eq_true, decide_eq_true_eq] at q2
      exact ⟨ic, q2.1, q2.2, h3, Or.inr ⟨sx, t, h4, ht, h6, h9⟩⟩
    · cases q2
  · cases h
theorem snd_thr (hdec : Dec) {x e0 : Nat} (hC : Cx p l R s m meth c k lo D tA) (hi : ins k pc = some (.new x)) (hn : newOf k x = some (1, e0)) (hc : throwAt k pc x = true ∧ mH k = [] ∧ 1 ≤ bc ∧ 6 ≤ bs ∧ nsum st ≤ 8) : Wq p l e R s m args below meth c D tA lo k ad0 n0 (.inr e0) hp pc ls st bc bs hp := by
  obtain ⟨⟨hx, hb, hown, hml⟩, ⟨hlk, hrt, hmn, hxt⟩, hF, hZ, hlo, ⟨hfr, hlc⟩, htr⟩ := hC
  obtain ⟨c1, hm0, c2, c3, c4⟩ := hc
  obtain ⟨-, n6, nw⟩ := new_spec hn
  have e6 : e0 < 6 := n6 rfl
  obtain ⟨ic, hO, hmem, h3, hcase⟩ := thr_spec c1
  have hic : ic = thIc e0 := by
    have h9 := thr_ix _ hmem
    have h8 : (newT.getD 7 []).lookup x = some (1, e0) := by rw [← hO]; exact hn
    dsimp only at h9
    rw [h8] at h9
    simpa using h9
  subst hic
  have hown7 : ownN (mO k) = RX7 := by rw [hO]; rfl
  have w1 : Cond.classLink RX7 x (excN e0) ∈ TW := by rw [← hown7]; exact nw _ List.mem_cons_self
  have w2 : Cond.initialized (excN e0) ∈ TW := nw _ (List.mem_cons_of_mem _ List.mem_cons_self)
  have hat : ∀ w ∈ thW e0, w.before args s = true := fun w hw => (atQ_in (thr_tab e0 e6) w hw).elim (fun h => hF.word h) (fun h => va_Nw.use (TX_tab h) (hF.2.2.1 w h))
  have hgd : ∀ w ∈ Cond.classLink RX7 x (excN e0) :: Cond.initialized (excN e0) :: thW e0, vx_ot w = true := by
    intro w hw
    rcases List.mem_cons.mp hw with rfl | hw
    · exact TW_ot w1
    · rcases List.mem_cons.mp hw with rfl | hw
      · exact TW_ot w2
      · rcases atQ_in (thr_tab e0 e6) w hw with h | h
        · exact TW_ot h
        · unfold vx_ot; rw [TX_tab h, Bool.true_or]
  obtain ⟨x0, x1, x2, x5⟩ := thr_dec e0 e6
  have htab : ∀ z ∈ c.exceptionTable.toList, False := fun z hz => by
    rw [hxt (fun h9 => by rw [h9] at hO; exact absurd hO (by decide)), hm0] at hz
    cases hz
  have hown8 : s.vm.findClass RX7 = some m.cls := by rw [← hown7]; exact hown
  intro H locs lsr ad cells slots hR z1 z2
  obtain ⟨⟨hP, hD, hS⟩, r2, ⟨r3, r4⟩, r5, ⟨r6, r7⟩, L, xs, r8, r9, r10⟩ := hR
  have hX : ∀ t : State, s.vm.Alike t.vm → H.size ≤ t.heap.size → (∀ q : Nat, q < H.size → t.heap[q]? = H[q]?) → Xp D tA lo ad0 n0 (.inr e0) hp (excN e0) s t := by
    intro t hA hz hq
    refine ⟨e0, ad, rfl, e6, rfl, ⟨r6, r7⟩, ⟨hP.kept (fun kk q hk => hq _ (hP kk q hk).lt), hD⟩, r2, ⟨L, xs, r8, va_X.moved hA (r9.kept ?_), r10⟩, Nat.le_trans hS.1 hz, fun q h1 h2 => (hq q (Nat.lt_of_lt_of_le h1 hS.1)).trans (hS.2.1 q h1 h2)⟩
    have hl0 : ad 0 < s.heap.size := Nat.lt_of_lt_of_le r10 hlo
    exact (hq _ (Nat.lt_of_lt_of_le hl0 hS.1)).trans (hS.2.1 _ hl0 (fun q => absurd r10 (Nat.not_lt.mpr q)))
  have hsum : ((st.map (tr ad)).map fun v => v.category).sum = nsum st := by
    unfold nsum
    rw [List.map_map]
    congr 1
    exact List.map_congr_left fun v _ => tr_cat
  have hsz : lsr.size = c.maxLocals := r5.2.1.trans hml.symm
  rcases hcase with ⟨sx, t, h4, ht, h6, h9⟩ | ⟨sx, t, h4, ht, h6, h9⟩
  · obtain ⟨sa, hsa⟩ := hF.2.2.2.2.1 (sx, t) (by rw [← hO]; exact lookup_mem ht)
    exact oThrowS (cls := excN e0) (own := RX7) (A := loA lo) (free := loA lo) hx hb htr x0 x1 x2 x5 hown8 (thr_fit e0 e6) (hF.word w1) (hF.word w2) hsa hat hgd hZ.1 hZ.2 hS hsz (hdec _ _ _ hi) (hdec _ _ _ h3) (hdec _ _ _ h4) (hdec _ _ _ h6) (hdec _ _ _ h9)
      (fun z hz => (htab z hz).elim) (by omega) (by rw [hsum]; omega) (by omega) (by omega) hlk hX hS.2.2 (by omega) (by omega)
  · obtain ⟨sa, hsa⟩ := hF.2.2.2.2.1 (sx, t) (by rw [← hO]; exact lookup_mem ht)
    exact oThrowW (cls := excN e0) (own := RX7) (A := loA lo) (free := loA lo) hx hb htr x0 x1 x2 x5 hown8 (thr_fit e0 e6) (hF.word w1) (hF.word w2) hsa hat hgd hZ.1 hZ.2 hS hsz (hdec _ _ _ hi) (hdec _ _ _ h3) (hdec _ _ _ h4) (hdec _ _ _ h6) (hdec _ _ _ h9)
      (fun z hz => (htab z hz).elim) (by omega) (by rw [hsum]; omega) (by omega) (by omega) hlk hX hS.2.2 (by omega) (by omega)
/-- a method's contract out of its body's run -/
theorem MT_of (htr : l.stackTraces = false) (hk : k < 233) {as : List Value} {ad : Nat → Nat} (hcat : ∀ v ∈ as, v.category = 1) (hlen : as.length ≤ mL k)
    (H : ∀ (p : Program) (e : Env) (R : Room) (s : State) (m : MethodId) (args : Array Value) (below : List Frame) (meth : Method) (c : Code), R.cells = mcT k → R.slots = msT k → Cx p l R s m meth c k lo D tA → Wq p l e R s m args below meth c D tA lo k ad hp.1 out hp' 0 (iniL k as) [] (mcT k) (msT k) hp) : MTc l D tA lo k as hp ad out hp' := by
  refine MetFree.of_bodySF (code := mB k) (maxLocals := mL k) (ret := mR k) (meth_ok1 k hk) ?_ ?_
  · intro args s m h hn
    have hw : (mW k).before args s = true := atoms_spec (ws := [mW k]) h _ List.mem_cons_self
    unfold mW at hw
    split at hw
    · obtain ⟨meth, c, h1, h2, h3, h4, h5, h6, -, -⟩ := Cond.code_spec hn hw
      exact ⟨meth, c, h1, h2, h3, h4, h5, h6⟩
    · obtain ⟨m9, meth, c, hn9, h1, h2, h3, h4, -, h5, h6, -⟩ := Cond.codeWith_spec hw
      cases hn.symm.trans hn9
      exact ⟨meth, c, h1, h2, h3, h4, h5, h6⟩
  · intro p e s m args below meth c s₁ B hml hP _
    have hh0 : s₁.heap = s.heap := by rw [B.state]; rfl
    have hw : (mW k).before args s = true := atoms_spec (ws := [mW k]) B.pre _ List.mem_cons_self
    have hxt : c.exceptionTable.toList = tableOf (mH k) := by
      unfold mW at hw
      split at hw
      next hm =>
        rw [hm]
        obtain ⟨meth9, c9, h1, h2, -, -, -, -, h7, -⟩ := Cond.code_spec B.named hw
        cases Option.some.inj (h1.symm.trans B.method)
        cases Option.some.inj (h2.symm.trans (Stand.of_body B).code)
        rw [Array.isEmpty_iff.mp h7]
        rfl
      next r rs hm =>
        rw [hm]
        exact vx_table (x := mY k) B hw
    obtain ⟨rfl, hF, hZ, hlo, ⟨hPp, hDd⟩, hok, hva, L, xs, hz, hX, hb0⟩ := hP
    have hCx : Cx p l (rmK k) s m meth c k lo D tA :=
      ⟨⟨B.exec, B.bytes, by rw [← (meth_ok4 k hk).1]; exact findClass_of_methodNamed B.named, hml⟩, ⟨B.notSynchronized, B.returns, fun _ => (name_of_methodNamed B.named B.method).1, fun _ => hxt⟩, hF, hZ, hlo, ⟨Nat.le_refl _, Nat.le_refl _⟩, htr⟩
    have hW := H p e (rmK k) s m (as.map (tr ad)).toArray below meth c rfl rfl hCx
    have hsl : (lg_sl (as.map (tr ad))).length ≤ mL k := by
      have : ∀ vs : List Value, (∀ v ∈ vs, v.category = 1) → (lg_sl vs).length = vs.length := by
        intro vs
        induction vs with
        | nil => intro _; rfl
        | cons v vs ih =>
          intro hv
          have hv1 : ¬ v.category = 2 := by rw [hv v List.mem_cons_self]; decide
          have := ih (fun w hw => hv w (List.mem_cons_of_mem _ hw))
          simp only [lg_sl, List.flatMap_cons, if_neg hv1, List.length_append, List.length_cons, List.length_nil] at this ⊢
          omega
      rw [this _ (fun v hv => by
        obtain ⟨u, hu, rfl⟩ := List.mem_map.mp hv
        rw [tr_cat]; exact hcat u hu), List.length_map]
      exact hlen
    have hl := lv_entry (as.map (tr ad)) (n := mL k) hsl
    have hR : Rl s D tA lo k ad hp.1 ad hp (iniL k as) [] s.heap [] ((lg_sl (as.map (tr ad)) ++ List.replicate (mL k - (lg_sl (as.map (tr ad))).length) Slot.unset).toArray) := by
      refine ⟨⟨hPp, hDd, va_S.rf⟩, hok, ⟨fun v hv => (by cases hv), fun v hv => ?_⟩, LR.ini hcat hlen hl, ⟨fun _ _ => rfl, Nat.le_refl _⟩, L, xs, hz, hX, hb0⟩
      rcases List.mem_append.mp hv with h | h
      · exact hva v h
      · rw [List.eq_of_mem_replicate h]; trivial
    have hW2 := hW s.heap [] _ ad 0 0 hR (by show 0 + mcT k ≤ mcT k; omega) (by show 0 + msT k ≤ msT k; omega)
    rw [lg_entry_eq]
    obtain ⟨t, a1, o, b1, b2, b3⟩ := hW2 s₁ hh0 (Stand.of_body B)
    exact ⟨t, o, a1, b1, b2, b3⟩
end MAIN
