/-! a call of the small machine on the real one -/
theorem mL_le : ∀ k, k < 233 → mL k ≤ 41 := by decide +kernel
theorem no_cls0 : ∀ o, o < 11 → (newT.getD o []).lookup 0 = none := by decide +kernel
def excI : List Nat := [357, 485, 469, 1036, 652, 537]
theorem exc_cast : ((List.range 6).zip excI).all (fun q => decide (tables_1[q.2]? = some (Cond.castable (excN q.1) (excN q.1)))) = true := by decide +kernel
theorem exc_castW {x : Nat} (h : x < 6) : Cond.castable (excN x) (excN x) ∈ TX := by
  have h1 := List.all_eq_true.mp exc_cast
  obtain ⟨i, hi⟩ := zip_in (l := List.range 6) (l' := excI) (by decide) (List.mem_range.mpr h)
  exact TX_in (List.mem_of_getElem? (of_decide_eq_true (h1 _ hi))) rfl
theorem hndF_spec {k pc x h : Nat} : ∀ {rows : List (Nat × Nat × Nat × Nat)}, hndF k pc x rows = some h → ∃ (pre : List (Nat × Nat × Nat × Nat)) (r : Nat × Nat × Nat × Nat) (suf : List (Nat × Nat × Nat × Nat)), rows = pre ++ r :: suf ∧ r.2.2.1 = h ∧ (r.1 ≤ pc ∧ pc < r.2.1) ∧ newOf k r.2.2.2 = some (1, x) ∧ ∀ z ∈ pre, ¬ (z.1 ≤ pc ∧ pc < z.2.1) ∨ ∃ y, y ≠ x ∧ newOf k z.2.2.2 = some (1, y)
  | [], hh => nomatch hh
  | r :: rs, hh => by
    rw [hndF] at hh
    by_cases hc : r.1 ≤ pc ∧ pc < r.2.1
    · rw [if_pos hc] at hh
      cases hn : newOf k r.2.2.2 with
      | none => rw [hn] at hh; cases hh
      | some q =>
        rw [hn] at hh
        obtain ⟨kd, y⟩ := q
        rcases kd with _ | _ | kd
        · cases hh
        · replace hh : (if y = x then some r.2.2.1 else hndF k pc x rs) = some h := hh
          by_cases hy : y = x
          · rw [if_pos hy] at hh
            cases hh
            exact ⟨[], r, rs, rfl, rfl, hc, by rw [hn, hy], fun z hz => nomatch hz⟩
          · rw [if_neg hy] at hh
            obtain ⟨pre, r2, suf, e1, e2, e3, e4, e5⟩ := hndF_spec hh
            refine ⟨r :: pre, r2, suf, by rw [e1]; rfl, e2, e3, e4, fun z hz => ?_⟩
            rcases List.mem_cons.mp hz with rfl | hz
            · exact Or.inr ⟨y, hy, hn⟩
            · exact e5 z hz
        · cases hh
    · rw [if_neg hc] at hh
      obtain ⟨pre, r2, suf, e1, e2, e3, e4, e5⟩ := hndF_spec hh
      refine ⟨r :: pre, r2, suf, by rw [e1]; rfl, e2, e3, e4, fun z hz => ?_⟩
      rcases List.mem_cons.mp hz with rfl | hz
      · exact Or.inl hc
      · exact e5 z hz
theorem rF_own : ∀ o, o < 9 → ownN o = rF o := by
  intro o h
  rcases o with _ | _ | _ | _ | _ | _ | _ | _ | _ | o
  all_goals first | rfl | omega
def isCtl : Instr → Bool
  | .ireturn => true
  | .lreturn => true
  | .freturn => true
  | .dreturn => true
  | .areturn => true
  | .return_ => true
  | .new _ => true
  | .invokevirtual _ => true
  | .invokespecial _ => true
  | .invokestatic _ => true
  | _ => false
set_option maxHeartbeats 4000000 in
theorem act_ctl {k : Nat} {i : Instr} {pc : Nat} {ls st : List Value} {bc bs : Nat} {hp : Hp} {r : Out ⊕ (Nat × List Value × List Value)} (h : act k i pc ls st bc bs hp = some (.inr r)) : isCtl i = true := by
  unfold act at h
  split at h
  all_goals first
    | rfl
    | exact nos h
    | (exfalso; simp only [nx, br] at h; repeat' split at h
       all_goals first | exact nos h | cases h)
section CALL
variable {p : Program} {l : Launch} {e : Env} {R : Room} {s : State} {m : MethodId} {args : Array Value} {below : List Frame} {meth : Method} {c : Code} {D : va_G} {tA : Nat → ClassId} {lo k : Nat} {ad0 : Nat → Nat} {n0 : Nat}
variable {pc pc' : Nat} {ls ls' st st' as rest : List Value} {bc bs bc' bs' : Nat} {hp hp' hp1 : Hp} {out out1 : Out} {k' : Nat}
theorem no_retc {i : Instr} {q : Nat × List Value × List Value} (hi : i = .ireturn ∨ i = .lreturn ∨ i = .freturn ∨ i = .dreturn ∨ i = .areturn ∨ i = .return_) (h : act k i pc ls st bc bs hp = some (.inr (.inr q))) : False := by
  rcases hi with rfl | rfl | rfl | rfl | rfl | rfl
  all_goals
    cases st with
    | nil => first | exact nos h | (simp only [act] at h; split at h <;> first | exact nos h | cases h)
    | cons v st =>
      cases st with
      | cons w st => cases v <;> exact nos h
      | nil => cases v <;> first | exact nos h | (simp only [act] at h; split at h <;> first | exact nos h | cases h)
theorem Ps.blind {ad : Nat → Nat} {av : List Value} : FrameBlind (va_Pc av (Ps D tA lo ad hp as)) := by
  rintro a U g mk ⟨h0, hF, hZ, hlo, hP, hok, hva, L, xs, hz, hX, hb⟩
  exact ⟨h0, SF.warm (s := U) (U := U.calling g mk a) (State.WarmedH.refl U) hF, ⟨vx_Zq.moved (u := U) (U := U.calling g mk a) (Vm.Alike.refl U.vm) hZ.1, vx_Zq.moved (u := U) (U := U.calling g mk a) (Vm.Alike.refl U.vm) hZ.2⟩, hlo, hP, hok, hva, L, xs, hz, va_X.moved (u := U) (U := U.calling g mk a) (Vm.Alike.refl U.vm) hX, hb⟩
/-- the callee's start, seen from the caller -/
theorem Ps.of {ad : Nat → Nat} {H : Heap} {locs : List Loc} {lsr : Array Slot} (hF : SF D tA s) (hZ : ZF (loA lo) s s.heap) (hlo : lo ≤ s.heap.size) (hR : Rl s D tA lo k ad0 n0 ad hp ls st H locs lsr) (has : ∀ v ∈ as, okv hp.1 v) (U : State) (hU : U.heap = H) (hW : s.WarmedH U.vm) : Ps D tA lo ad hp as U := by
  obtain ⟨⟨hP, hD, hS⟩, r2, -, -, -, L, xs, r6, r7, r8⟩ := hR
  refine ⟨hF.warm hW, ⟨?_, ?_⟩, ?_, ⟨by rw [hU]; exact hP, hD⟩, r2, has, L, xs, r6, ?_, r8⟩
  · rw [hU]; exact vx_Zq.moved hW.alike (hZ.1.kept hS.2.1)
  · rw [hU]; exact vx_Zq.moved hW.alike (hZ.2.kept hS.2.1)
  · rw [hU]; exact Nat.le_trans hlo hS.1
  · rw [hU]
    exact va_X.moved hW.alike (r7.kept (hS.2.1 _ (Nat.lt_of_lt_of_le r8 hlo) (fun q => absurd r8 (Nat.not_lt.mpr q))))
theorem mW_nil (h : mH k' = []) : mW k' = .code (mY k') (mB k') (mL k') (mR k') := by unfold mW; rw [h]
theorem calB (hC : Cx p l R s m meth c k lo D tA) {x kd : Nat} (hk : k' < 233) (hk2 : k' < 232) (hg : hgt k' < hgt k) (hm : mH k' = []) (hini : (Cond.initialized (mY k').cls) ∈ TW) (hlk : (Cond.methodLink (ownN (mO k)) x (mY k')).before args s = true) :
    CallB R s args (ownN (mO k)) x (mY k') (mB k') (mL k') (mR k') [mW k'] (rmK k') (mcT k') (msT k') (mA k') := by
  obtain ⟨-, -, hF, -, -, hrm, -⟩ := hC
  have h1 := mL_le k' hk
  have hw : mW k' ∈ TW := meth_tab k' hk2
  refine ⟨rfl, rfl, ?_, ?_, ?_, by rw [mW_nil hm]; exact List.mem_cons_self, by rw [← mW_nil hm]; exact hF.word hw, hF.word hini, meth_ok2 k' hk, ?_, hlk⟩
  · show 7 + hgt k' + 1 ≤ R.frames; omega
  · show 8 + (mL k' + 11) + (200 + 60 * hgt k') ≤ R.locals; omega
  · intro w hw2 a' U hW
    rw [List.mem_singleton.mp hw2]
    exact word_at hW (TW_good hw) (hF.2.1 _ hw)
  · intro sig hs
    have h3 := meth_ok3 k' hk
    rw [hs] at h3
    exact (Option.some.inj h3).symm
theorem sel_word (hF : SF D tA s) {x kx : Nat} (hcal : calOf k x = some (0, kx)) : (Cond.selects (mY kx).cls (mY kx) (mY kx)).before args s = true := by
  obtain ⟨h1, h2⟩ := cal_sel (mO k) (mO_lt k)
  obtain ⟨i, hi⟩ := zip_in h1 (lookup_mem hcal)
  exact hF.word (List.mem_filter.mpr ⟨List.mem_of_getElem? (h2 _ hi rfl), rfl⟩)
theorem nest_word (hF : SF D tA s) {x kd kx : Nat} (hcal : calOf k x = some (kd, kx)) (hkd : kd = 4 ∨ kd = 5) : va_Nw (.methodLinkNest (ownN (mO k)) x (mY kx) "Lampboard") s := by
  obtain ⟨h1, h2⟩ := cal_nest (mO k) (mO_lt k)
  obtain ⟨i, hi⟩ := zip_in h1 (lookup_mem hcal)
  exact hF.2.2.1 _ (TX_in (List.mem_of_getElem? (h2 _ hi hkd)) rfl)
theorem calN (hC : Cx p l R s m meth c k lo D tA) {x : Nat} (hk : k' < 233) (hk2 : k' < 232) (hg : hgt k' < hgt k) (hm : mH k' = []) (hini : (Cond.initialized (mY k').cls) ∈ TW) (hlk : va_Nw (.methodLinkNest (ownN (mO k)) x (mY k') "Lampboard") s) :
    va_CN R s args (ownN (mO k)) x (mY k') "Lampboard" (mB k') (mL k') (mR k') [mW k'] (rmK k') (mcT k') (msT k') (mA k') := by
  obtain ⟨-, -, hF, -, -, hrm, -⟩ := hC
  have h1 := mL_le k' hk
  have hw : mW k' ∈ TW := meth_tab k' hk2
  refine ⟨⟨rfl, rfl, ?_, ?_, ?_, by rw [mW_nil hm]; exact List.mem_cons_self⟩, by rw [← mW_nil hm]; exact hF.word hw, hF.word hini, meth_ok2 k' hk, ?_, va_Nw.use rfl hlk⟩
  · show 7 + hgt k' + 1 ≤ R.frames; omega
  · show 8 + (mL k' + 11) + (200 + 60 * hgt k') ≤ R.locals; omega
  · intro w hw2 a' U hW
    rw [List.mem_singleton.mp hw2]
    exact word_at hW (TW_good hw) (hF.2.1 _ hw)
  · intro sig hs
    have h3 := meth_ok3 k' hk
    rw [hs] at h3
    exact (Option.some.inj h3).symm
theorem call_run (hdec : Dec) {i : Instr} (hC : Cx p l R s m meth c k lo D tA) (hi : ins k pc = some i) (h : act k i pc ls st bc bs hp = some (.inr (.inr (k', as, rest)))) (hok : callOK k k' as rest bc bs = true) (hk2 : k' < 232) {ad : Nat → Nat} (hM : MTc l D tA lo k' as hp ad out1 hp1)
    {H : Heap} {locs : List Loc} {lsr : Array Slot} {cells slots : Nat} (hR : Rl s D tA lo k ad0 n0 ad hp ls st H locs lsr) (z1 : cells + bc ≤ R.cells) (z2 : slots + bs ≤ R.slots) :
    (∀ v ∈ rest, okv hp.1 v) ∧ vx_Run p l e R s m args below meth c H locs cells slots (mcT k') (msT k') (F0 m pc lsr (st.map (tr ad))) (rest.map (tr ad)) (Qp D tA lo ad hp.1 out1 hp1 (as.map (tr ad)).toArray) (Xp D tA lo ad hp.1 out1 hp1) (loA lo) := by
  have hd := hdec k pc i hi
  have hC0 := hC
  obtain ⟨⟨hx, hb, hown, hml⟩, ⟨hlk, hrt, hmn, hxt⟩, hF, hZ, hlo, hrm, htr⟩ := hC
  simp only [callOK, Bool.and_eq_true, decide_eq_true_eq] at hok
  obtain ⟨c1, c2, c3, c4, c5, c6, c7⟩ := hok
  have hfix : CallFix p m c (mB k) (mL k) s args TW (ownN (mO k)) := ⟨hx, hb, hml, hown, hF.words⟩
  have hsz : lsr.size = mL k := hR.2.2.2.1.2.1
  have hroom : ∀ g : JFrame, g.monitorRoom = 0 → 2 * g.monitorRoom + ((rest.map (tr ad)).map fun v => v.category).sum ≤ 8 := fun g hg => by rw [hg, tr_sum]; omega
  have hf : cells + mcT k' ≤ R.cells ∧ slots + msT k' ≤ R.slots := ⟨by omega, by omega⟩
  -- the stack, where the receiver lies at n
  have split1 : ∀ (n : Nat) (b : Nat), st[n]? = some (.ref b) → (st.take (n + 1)).reverse = as → st.drop (n + 1) = rest → ∃ As : List Value, As.length = n ∧ as = .ref b :: As ∧ st = As.reverse ++ .ref b :: rest := by
    intro n b hn h1 h2
    refine ⟨(st.take n).reverse, ?_, ?_, ?_⟩
    · rw [List.length_reverse, List.length_take]
      have := (List.getElem?_eq_some_iff.mp hn).1
      omega
    · rw [← h1, List.take_add_one, hn]; simp
    · rw [List.reverse_reverse, ← h2]
      have h3 := List.take_append_drop (n + 1) st
      rw [List.take_add_one, hn] at h3
      simpa using h3.symm
  have okst := hR.2.2.1.1
  cases i with
  | invokevirtual x =>
    simp only [act] at h
    split at h
    next kx hcal =>
      split at h
      next b hb9 =>
        split at h
        next hrc =>
          simp only [callO, Option.some.injEq, Sum.inr.injEq, Prod.mk.injEq] at h
          obtain ⟨rfl, h1, h2⟩ := h
          obtain ⟨As, a1, a2, a3⟩ := split1 _ b hb9 h1 h2
          have hvas : ∀ v ∈ as, okv hp.1 v := by
            rw [a2]
            intro v hv
            refine okst v ?_
            rw [a3]
            rcases List.mem_cons.mp hv with rfl | hv
            · exact List.mem_append_right _ List.mem_cons_self
            · exact List.mem_append_left _ (List.mem_reverse.mpr hv)
          have hvr : ∀ v ∈ rest, okv hp.1 v := fun v hv => okst v (by rw [a3]; exact List.mem_append_right _ (List.mem_cons_of_mem _ hv))
          obtain ⟨hpl, hws⟩ := cal_spec hcal
          obtain ⟨fs, hfs⟩ := Option.isSome_iff_exists.mp hrc
          obtain ⟨o1, o2, o3⟩ := isObj_spec hfs
          have he := wl_get (ad := ad) (tA := tA) o2 o3
          rw [o1] at he
          have hlt9 : mO kx < 9 := by
            obtain ⟨r, h1, -⟩ := hR.1.1 (b - 1) _ he
            have := (List.getElem?_eq_some_iff.mp h1).1
            exact this
          obtain ⟨r, hr1, cell, q1, q2, q3, q4⟩ := hR.1.1 (b - 1) _ he
          have hr : r = (rF (mO kx), tF (mO kx), nF (mO kx)) := Option.some.inj (hr1.symm.trans (cls_row _ hlt9))
          subst hr
          have hcls : (mY kx).cls = rF (mO kx) := by
            rw [(meth_ok4 kx c2).1]
            exact rF_own _ hlt9
          have hfc := (hF.1.1 (mO kx) _ (cls_row _ hlt9)).2.1
          have hsel : (Cond.selects (mY kx).cls (mY kx) (mY kx)).before args s = true := sel_word hF hcal
          refine ⟨hvr, ?_⟩
          have hB : CallB R s args (ownN (mO k)) x (mY kx) (mB kx) (mL kx) (mR kx) [mW kx] (rmK kx) (mcT kx) (msT kx) (mA kx) := calB (kd := 0) hC0 c2 hk2 c1 (of_decide_eq_true hpl) (hws _ mem2) (hF.word (hws _ mem0))
          rw [a2]
          exact vx_runV (g := F0 m pc lsr (st.map (tr ad))) (b := ad b) (As := As.map (tr ad)) (rest := rest.map (tr ad)) (n := mA kx) (C := (mY kx).cls) hfix hM ⟨hB, hF.word (hws _ mem1), hsel⟩
            ⟨Ps.blind, ⟨cell, q1, by rw [q3]; rfl, by rw [hcls, hfc, q2]⟩, fun U hU hW => ⟨by rw [a2]; rfl, Ps.of hF hZ hlo hR hvas U hU hW⟩⟩ rfl (by rw [List.length_map, a1]) hsz (by show st.map (tr ad) = _; rw [a3]; simp [tr]) (hroom _ rfl) hd hf
        next => exact nos h
      next => exact nos h
    next => exact nos h
  | invokespecial x =>
    simp only [act] at h
    split at h
    next kx hcal =>
      split at h
      next b hb9 =>
        simp only [callO, Option.some.injEq, Sum.inr.injEq, Prod.mk.injEq] at h
        obtain ⟨rfl, h1, h2⟩ := h
        obtain ⟨As, a1, a2, a3⟩ := split1 _ b hb9 h1 h2
        have hvas : ∀ v ∈ as, okv hp.1 v := by
          rw [a2]
          intro v hv
          refine okst v ?_
          rw [a3]
          rcases List.mem_cons.mp hv with rfl | hv
          · exact List.mem_append_right _ List.mem_cons_self
          · exact List.mem_append_left _ (List.mem_reverse.mpr hv)
        have hvr : ∀ v ∈ rest, okv hp.1 v := fun v hv => okst v (by rw [a3]; exact List.mem_append_right _ (List.mem_cons_of_mem _ hv))
        obtain ⟨hpl, hws⟩ := cal_spec hcal
        simp only [calPl, Bool.and_eq_true, decide_eq_true_eq] at hpl
        refine ⟨hvr, ?_⟩
        have hB := calB (args := args) (kd := 3) hC0 c2 hk2 c1 hpl.1 (hws _ mem2) (hF.word (hws _ mem0))
        rw [hpl.2.2] at hB
        rw [a2]
        exact vx_runI (g := F0 m pc lsr (st.map (tr ad))) (b := ad b) (As := As.map (tr ad)) (rest := rest.map (tr ad)) (n := mA kx) hfix hM ⟨hB, hpl.2.1, hF.word (hws _ mem1)⟩
          ⟨Ps.blind, fun U hU hW => ⟨by rw [a2]; rfl, Ps.of hF hZ hlo hR hvas U hU hW⟩⟩ rfl (by rw [List.length_map, a1]) hsz (by show st.map (tr ad) = _; rw [a3]; simp [tr]) (hroom _ rfl) hd hf
      next => exact nos h
    next kx hcal =>
      split at h
      next b hb9 =>
        simp only [callO, Option.some.injEq, Sum.inr.injEq, Prod.mk.injEq] at h
        obtain ⟨rfl, h1, h2⟩ := h
        obtain ⟨As, a1, a2, a3⟩ := split1 _ b hb9 h1 h2
        have hvas : ∀ v ∈ as, okv hp.1 v := by
          rw [a2]
          intro v hv
          refine okst v ?_
          rw [a3]
          rcases List.mem_cons.mp hv with rfl | hv
          · exact List.mem_append_right _ List.mem_cons_self
          · exact List.mem_append_left _ (List.mem_reverse.mpr hv)
        have hvr : ∀ v ∈ rest, okv hp.1 v := fun v hv => okst v (by rw [a3]; exact List.mem_append_right _ (List.mem_cons_of_mem _ hv))
        obtain ⟨hpl, hws⟩ := cal_spec hcal
        simp only [calPl, Bool.and_eq_true, decide_eq_true_eq] at hpl
        refine ⟨hvr, ?_⟩
        have hN := calN (args := args) hC0 c2 hk2 c1 hpl.1 (hws _ mem1) (nest_word hF hcal (Or.inl rfl))
        rw [hpl.2.2] at hN
        rw [a2]
        exact vx_runIN (g := F0 m pc lsr (st.map (tr ad))) (b := ad b) (As := As.map (tr ad)) (rest := rest.map (tr ad)) (n := mA kx) hfix hM ⟨hN, hpl.2.1, hF.word (hws _ mem0)⟩
          ⟨Ps.blind, fun U hU hW => ⟨by rw [a2]; rfl, Ps.of hF hZ hlo hR hvas U hU hW⟩⟩ rfl (by rw [List.length_map, a1]) hsz (by show st.map (tr ad) = _; rw [a3]; simp [tr]) (hroom _ rfl) hd hf
      next => exact nos h
    next =>
      split at h
      · split at h
        · cases h
        · exact nos h
      · exact nos h
    next => exact nos h
  | invokestatic x =>
    have stat : ∀ kx, mA kx ≤ st.length → (st.take (mA kx)).reverse = as → st.drop (mA kx) = rest → as.length = mA kx ∧ st = as.reverse ++ rest ∧ (∀ v ∈ as, okv hp.1 v) ∧ ∀ v ∈ rest, okv hp.1 v := by
      intro kx hn h1 h2
      have h3 : st = as.reverse ++ rest := by rw [← h1, ← h2, List.reverse_reverse, List.take_append_drop]
      refine ⟨by rw [← h1, List.length_reverse, List.length_take]; omega, h3, fun v hv => okst v (by rw [h3]; exact List.mem_append_left _ (List.mem_reverse.mpr hv)), fun v hv => okst v (by rw [h3]; exact List.mem_append_right _ hv)⟩
    simp only [act] at h
    split at h
    next kx hcal =>
      split at h
      next hn =>
        simp only [callO, Option.some.injEq, Sum.inr.injEq, Prod.mk.injEq] at h
        obtain ⟨rfl, h1, h2⟩ := h
        obtain ⟨a1, a3, hvas, hvr⟩ := stat kx hn h1 h2
        obtain ⟨hpl, hws⟩ := cal_spec hcal
        refine ⟨hvr, ?_⟩
        exact vx_runS (g := F0 m pc lsr (st.map (tr ad))) (As := as.map (tr ad)) (rest := rest.map (tr ad)) (n := mA kx) hfix hM ⟨calB (kd := 1) hC0 c2 hk2 c1 (of_decide_eq_true hpl) (hws _ mem2) (hF.word (hws _ mem0)), hF.word (hws _ mem1)⟩
          ⟨Ps.blind, fun U hU hW => ⟨rfl, Ps.of hF hZ hlo hR hvas U hU hW⟩⟩ rfl (by rw [List.length_map, a1]) hsz (by show st.map (tr ad) = _; rw [a3]; simp) (hroom _ rfl) hd hf
      next => exact nos h
    next kx hcal =>
      split at h
      next hn =>
        simp only [callO, Option.some.injEq, Sum.inr.injEq, Prod.mk.injEq] at h
        obtain ⟨rfl, h1, h2⟩ := h
        obtain ⟨a1, a3, hvas, hvr⟩ := stat kx hn h1 h2
        obtain ⟨hpl, hws⟩ := cal_spec hcal
        refine ⟨hvr, ?_⟩
        have hne : mH kx ≠ [] := of_decide_eq_true hpl
        cases hmH : mH kx with
        | nil => exact absurd hmH hne
        | cons r0 rs =>
          have hmW : mW kx = .codeWith (mY kx) (mB kx) (mL kx) (mR kx) (r0 :: rs) := by unfold mW; rw [hmH]
          have hwT : mW kx ∈ TW := meth_tab kx hk2
          have h9 := mL_le kx c2
          exact vx_runSX (hh := r0 :: rs) (bytes := mB kx) (maxL := mL kx) (ret := mR kx) (rm := rmK kx) (ws := [mW kx]) (own := ownN (mO k)) (index := x) (g := F0 m pc lsr (st.map (tr ad))) (As := as.map (tr ad)) (rest := rest.map (tr ad)) (n := mA kx) hfix hM
            ⟨⟨rfl, rfl, by show 7 + hgt kx + 1 ≤ R.frames; omega, by show 8 + (mL kx + 11) + (200 + 60 * hgt kx) ≤ R.locals; omega, fun w hw2 a' U hW => by
                rw [List.mem_singleton.mp hw2]; exact word_at hW (TW_good hwT) (hF.2.1 _ hwT), by rw [hmW]; exact List.mem_cons_self⟩, by rw [← hmW]; exact hF.word hwT, hF.word (hws _ mem2), meth_ok2 kx c2, fun sig hs => by
                have h3 := meth_ok3 kx c2
                rw [hs] at h3
                exact (Option.some.inj h3).symm, hF.word (hws _ mem0), hF.word (hws _ mem1)⟩
            ⟨Ps.blind, fun U hU hW => ⟨rfl, Ps.of hF hZ hlo hR hvas U hU hW⟩⟩ rfl (by rw [List.length_map, a1]) hsz (by show st.map (tr ad) = _; rw [a3]; simp) (hroom _ rfl) hd hf
      next => exact nos h
    next kx hcal =>
      split at h
      next hn =>
        simp only [callO, Option.some.injEq, Sum.inr.injEq, Prod.mk.injEq] at h
        obtain ⟨rfl, h1, h2⟩ := h
        obtain ⟨a1, a3, hvas, hvr⟩ := stat kx hn h1 h2
        obtain ⟨hpl, hws⟩ := cal_spec hcal
        refine ⟨hvr, ?_⟩
        exact vx_runSN (g := F0 m pc lsr (st.map (tr ad))) (As := as.map (tr ad)) (rest := rest.map (tr ad)) (n := mA kx) hfix hM ⟨calN hC0 c2 hk2 c1 (of_decide_eq_true hpl) (hws _ mem1) (nest_word hF hcal (Or.inr rfl)), hF.word (hws _ mem0), trivial⟩
          ⟨Ps.blind, fun U hU hW => ⟨rfl, Ps.of hF hZ hlo hR hvas U hU hW⟩⟩ rfl (by rw [List.length_map, a1]) hsz (by show st.map (tr ad) = _; rw [a3]; simp) (hroom _ rfl) hd hf
      next => exact nos h
    next =>
      split at h
      · split at h
        · cases h
        · exact nos h
      · exact nos h
    next =>
      split at h
      · split at h
        · split at h
          · cases h
          · exact nos h
        · exact nos h
      · exact nos h
    next =>
      split at h
      · split at h
        · cases h
        · exact nos h
      · exact nos h
    next => exact nos h
  | new x =>
    simp only [act] at h
    split at h
    · split at h
      · cases h
      · exact nos h
    · split at h
      · cases h
      · exact nos h
    · exact nos h
  | ireturn => exact (no_retc (by simp) h).elim
  | lreturn => exact (no_retc (by simp) h).elim
  | freturn => exact (no_retc (by simp) h).elim
  | dreturn => exact (no_retc (by simp) h).elim
  | areturn => exact (no_retc (by simp) h).elim
  | return_ => exact (no_retc (by simp) h).elim
  | _ => exact absurd (act_ctl h) (by simp [isCtl])
end CALL
