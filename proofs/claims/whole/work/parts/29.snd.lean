/-! the small machine is sound -/
section SND
variable {p : Program} {l : Launch} {e : Env} {R : Room} {s : State} {m : MethodId} {args : Array Value} {below : List Frame} {meth : Method} {c : Code} {D : va_G} {tA : Nat → ClassId} {lo k : Nat} {ad0 : Nat → Nat} {n0 : Nat}
variable {pc pc' : Nat} {ls ls' st st' as rest : List Value} {bc bs bc' bs' : Nat} {hp hp' hp1 : Hp} {out out1 : Out} {k' : Nat}
theorem hgt_le : ∀ k, k < 233 → hgt k ≤ 15 ∧ (k = 232 → hgt k = 15) := by decide +kernel
theorem hgt_big (k : Nat) : hgt k ≤ 15 := by
  by_cases h : k < 233
  · exact (hgt_le k h).1
  · unfold hgt
    rw [List.getD_eq_getElem?_getD, List.getElem?_eq_none (by rw [show hgtT.length = 233 from rfl]; omega)]
    decide
/-- what the caller knows behind the callee's end -/
theorem Rl.back {ad ad1 : Nat → Nat} {H : Heap} {locs L : List Loc} {lsr : Array Slot} {st₀ t T' : State} {v : List Value} (hlo : lo ≤ s.heap.size) (hR : Rl s D tA lo k ad0 n0 ad hp ls st H locs lsr) (hE : En D tA lo ad hp.1 hp1 ad1 st₀ t) (h0 : st₀.heap = H) (e1 : T'.heap = t.heap) (hA : s.vm.Alike t.vm) (hL : ∀ q ∈ L, loA lo q.base) (hv : ∀ w ∈ v, okv hp1.1 w) (hr : ∀ w ∈ rest, okv hp.1 w) :
    Rl s D tA lo k ad0 n0 ad1 hp1 ls (v ++ rest) T'.heap (locs ++ L) lsr ∧ rest.map (tr ad1) = rest.map (tr ad) := by
  obtain ⟨⟨hP, hD, hS⟩, r2, ⟨r3, r4⟩, r5, ⟨r6, r7⟩, L0, xs0, r8, r9, r10⟩ := hR
  obtain ⟨⟨g1, g2⟩, ⟨g3, g4⟩, g5, ⟨L1, xs1, g6, g7, g8⟩, g9⟩ := hE
  obtain ⟨-, -, k3⟩ := vx_keep (A1 := loA lo) (A0 := loA lo) (free := loA lo) h0 e1 hS (fun _ _ q => q) (fun _ q => q) hL g9
  have hb : t.heap[ad1 0]? = s.heap[ad1 0]? := by
    rw [← e1]
    exact k3.2.1 _ (Nat.lt_of_lt_of_le g8 hlo) (fun q => absurd g8 (Nat.not_lt.mpr q))
  refine ⟨⟨⟨by rw [e1]; exact g3, g4, k3⟩, g5, ⟨fun w hw => ?_, fun w hw => okv_mono g2 (r4 w hw)⟩, r5.eq g1 r4, ⟨fun i hi => (g1 i (Nat.le_trans hi r7)).trans (r6 i hi), Nat.le_trans r7 g2⟩, L1, xs1, g6, va_X.moved hA.symm (g7.kept hb.symm), g8⟩, st_eq g1 hr⟩
  rcases List.mem_append.mp hw with h | h
  · exact hv w h
  · exact okv_mono g2 (hr w h)
theorem snd_call (hv0 : k = 232 → ∃ v, out = .inl v) (hdec : Dec) {i : Instr} (hC : Cx p l R s m meth c k lo D tA) (hi : ins k pc = some i) (h : act k i pc ls st bc bs hp = some (.inr (.inr (k', as, rest)))) (hok : callOK k k' as rest bc bs = true) (hk2 : k' < 232) (hM : ∀ ad, MTc l D tA lo k' as hp ad out1 hp1)
    (hN : ∀ v, out1 = .inl v → Wq p l e R s m args below meth c D tA lo k ad0 n0 out hp' (pc + 3) ls (v.toList ++ rest) (bc - mcT k') (bs - msT k') hp1)
    (hX : ∀ x, out1 = .inr x → (mH k = [] ∧ out = .inr x ∧ hp' = hp1) ∨ ∃ (rows : List (Nat × Nat × Nat × Nat)) (h pc2 j : Nat), mH k = rows ∧ hndF k pc x rows = some h ∧ hst k h = some (pc2, j) ∧ (j < ls.length ∧ pok ls j = true) ∧ Wq p l e R s m args below meth c D tA lo k ad0 n0 out hp' pc2 (ls.set j .null) [] (bc - mcT k') (bs - msT k') hp1) :
    Wq p l e R s m args below meth c D tA lo k ad0 n0 out hp' pc ls st bc bs hp := by
  intro H locs lsr ad cells slots hR z1 z2
  obtain ⟨hvr, run⟩ := call_run (e := e) (below := below) (args := args) hdec hC hi h hok hk2 (hM ad) hR z1 z2
  obtain ⟨⟨hx, hb, hown, hml⟩, ⟨hlk, hrt, hmn, hxt⟩, hF, hZ, hlo, hrm, htr⟩ := hC
  have hok2 := callOK_iff.mp hok
  intro T hT X
  rcases run T hT X with ⟨v, st₀, t, T', L, h0, X', hL, e1, e2, hq, stp⟩ | ⟨q, st₀, t, T', L, E, ce, h0, X', hL, e1, e2, hq, hce, hcv, hcl, stp⟩
  · obtain ⟨v', ad1, ho, hv, hvk, hEn⟩ := hq
    have hA : s.vm.Alike t.vm := by rw [← e2]; exact X'.warmed.alike
    obtain ⟨hR1, hsq⟩ := Rl.back (v := v'.toList) hlo hR hEn h0 e1 hA hL (fun w hw => hvk w (Option.mem_toList.mp hw)) hvr
    obtain ⟨t2, a1, b1⟩ := hN v' ho _ _ _ ad1 (cells + mcT k') (slots + msT k') hR1 (by omega) (by omega) T' rfl X'
    refine ⟨t2, stp t2 ?_, b1⟩
    have hv2 : v = v'.map (tr ad1) := by cases hv; rfl
    rw [hv2, ← hsq]
    have : (v'.toList ++ rest).map (tr ad1) = (v'.map (tr ad1)).toList ++ rest.map (tr ad1) := by cases v' <;> simp
    rw [this] at a1
    exact a1
  · obtain ⟨x, ad1, ho, hx6, hE, hEn⟩ := hq
    have hA : s.vm.Alike t.vm := by rw [← e2]; exact X'.warmed.alike
    obtain ⟨hR1, hsq⟩ := Rl.back (v := []) hlo hR hEn h0 e1 hA hL (fun w hw => nomatch hw) hvr
    have hce1 : T'.heap[q]? = some ce := by rw [e1]; exact hce
    suffices hW : vx_W p l e R s m args below meth c T'.heap (locs ++ L) (cells + mcT k') (slots + msT k') (vx_MQ below (Qp D tA lo ad0 n0 out hp') (Xp D tA lo ad0 n0 out hp') args s R.cells R.slots (loA lo)) (F0 m pc lsr (rest.map (tr ad))) q by
      obtain ⟨t2, a1, b1⟩ := hW T' rfl X'
      exact ⟨t2, stp.trans a1, b1⟩
    rcases hX x ho with ⟨hm0, rfl, rfl⟩ | ⟨rows, hh, pc2, j, hm0, hhn, hhs, ⟨hj1, hj2⟩, hk⟩
    · refine vx_out (E := E) (fun z hz => ?_) hlk hce1 hcv hcl (fun t' ht' hA' => ⟨x, ad1, rfl, hx6, hE, en_of hlo hR1 ht' hA'⟩) hR1.1.2.2.2.2 (by omega) (by omega)
      rw [hxt (fun h9 => by obtain ⟨v9, h8⟩ := hv0 h9; cases h8), hm0] at hz
      cases hz
    · obtain ⟨pre, r, suf, q1, q2, q3, q4, q5⟩ := hndF_spec hhn
      obtain ⟨-, n6, nw⟩ := new_spec q4
      have hne0 : r.2.2.2 ≠ 0 := fun h9 => by
        have := no_cls0 (mO k) (mO_lt k)
        unfold newOf at q4
        rw [h9, this] at q4
        cases q4
      subst hE
      have hsplit : c.exceptionTable.toList = tableOf pre ++ (⟨r.1, r.2.1, r.2.2.1, r.2.2.2⟩ : ExceptionTableEntry) :: tableOf suf := by
        rw [hxt (fun h9 => by rw [h9, q1, show mH 232 = [] from rfl] at hm0; simp at hm0), hm0, q1]
        simp [tableOf]
      refine vx_catch (own := ownN (mO k)) (name := excN x) (E := excN x) hown (tableOf pre) ⟨r.1, r.2.1, r.2.2.1, r.2.2.2⟩ (tableOf suf) hsplit (fun z hz => ?_) ?_ hne0 (hF.word (nw _ mem0)) (va_Nw.use rfl (hF.2.2.1 _ (exc_castW hx6))) hce1 hcv hcl ?_
      · obtain ⟨z0, hz0, rfl⟩ := List.mem_map.mp hz
        rcases q5 z0 hz0 with h9 | ⟨y, hy, hy2⟩
        · left
          simp only [covers, Bool.and_eq_false_iff, decide_eq_false_iff_not]
          by_cases h8 : z0.1 ≤ pc
          · exact Or.inr (fun h7 => h9 ⟨h8, h7⟩)
          · exact Or.inl h8
        · right
          obtain ⟨-, y6, yw⟩ := new_spec hy2
          refine ⟨fun h9 => ?_, excN y, hF.word (yw _ mem0), hF.2.2.2.2.2.1 x hx6 y (y6 rfl) (fun h9 => hy h9.symm)⟩
          have := no_cls0 (mO k) (mO_lt k)
          unfold newOf at hy2
          rw [show z0.2.2.2 = 0 from h9, this] at hy2
          cases hy2
      · simp only [covers, Bool.and_eq_true, decide_eq_true_eq]
        exact q3
      · show W p l e R s m args below meth c T'.heap (locs ++ L) (cells + mcT k') (slots + msT k') _ (F0 m r.2.2.1 lsr [.ref q])
        rw [q2]
        have fin : ∀ lsr2, lv_has lsr2 (mL k) ((j, Value.ref q) :: (ascL ad1 ls).filter (fun q => !(q.1 == j) && !(q.1 + 1 == j && q.2.category == 2))) → W p l e R s m args below meth c T'.heap (locs ++ L) (cells + mcT k') (slots + msT k') (vx_MQ below (Qp D tA lo ad0 n0 out hp') (Xp D tA lo ad0 n0 out hp') args s R.cells R.slots (loA lo)) (F0 m pc2 lsr2 []) := by
          intro lsr2 hl2
          obtain ⟨u1, u2, ⟨u3, u4⟩, u5, u6⟩ := hR1
          exact hk T'.heap (locs ++ L) lsr2 ad1 (cells + mcT k') (slots + msT k') ⟨u1, u2, ⟨(fun w hw => nomatch hw), ok_set (v := .null) trivial u4⟩, u5.st1 hj2 (Or.inl rfl) hl2, u6⟩ (by omega) (by omega)
        have hjl : j < mL k := by rw [← hR1.2.2.2.1.1]; exact hj1
        unfold hst at hhs
        cases hins : ins k hh with
        | none => rw [hins] at hhs; cases hhs
        | some i2 =>
          rw [hins] at hhs
          have hd2 := hdec k hh i2 hins
          cases i2 with
          | astore_n n =>
            cases hhs
            exact lv_astore_n hx hb hd2 rfl hR1.2.2.2.1.has hjl rfl fin
          | astore n =>
            cases hhs
            exact lv_astore hx hb hd2 hR1.2.2.2.1.has hjl rfl fin
          | _ => cases hhs
theorem no_callo {x : Nat} {o : Out} (h : act k (.invokevirtual x) pc ls st bc bs hp = some (.inr (.inl o)) ∨ act k (.invokespecial x) pc ls st bc bs hp = some (.inr (.inl o)) ∨ act k (.invokestatic x) pc ls st bc bs hp = some (.inr (.inl o))) : False := by
  rcases h with h | h | h
  all_goals
    simp only [act, callO, nx] at h
    repeat' split at h
    all_goals first | exact nos h | cases h
theorem snd_end (hdec : Dec) {i : Instr} (hC : Cx p l R s m meth c k lo D tA) (hi : ins k pc = some i) (h : act k i pc ls st bc bs hp = some (.inr (.inl out))) : Wq p l e R s m args below meth c D tA lo k ad0 n0 out hp pc ls st bc bs hp := by
  cases i with
  | ireturn => exact snd_ret hdec hC hi (by simp) h
  | lreturn => exact snd_ret hdec hC hi (by simp) h
  | freturn => exact snd_ret hdec hC hi (by simp) h
  | dreturn => exact snd_ret hdec hC hi (by simp) h
  | areturn => exact snd_ret hdec hC hi (by simp) h
  | return_ => exact snd_ret hdec hC hi (by simp) h
  | invokevirtual x => exact (no_callo (Or.inl h)).elim
  | invokespecial x => exact (no_callo (Or.inr (Or.inl h))).elim
  | invokestatic x => exact (no_callo (Or.inr (Or.inr h))).elim
  | new x =>
    cases hn : newOf k x with
    | none => simp only [act, hn] at h; exact nos h
    | some q =>
      obtain ⟨kd, e0⟩ := q
      rcases kd with _ | _ | kd
      · simp only [act, hn, nx] at h
        split at h
        · cases h
        · exact nos h
      · by_cases hc : throwAt k pc x = true ∧ mH k = [] ∧ 1 ≤ bc ∧ 6 ≤ bs ∧ nsum st ≤ 8
        · have h1 : (some (Sum.inr (Sum.inl (Sum.inr e0))) : Option Act) = some (.inr (.inl out)) := by simp only [act, hn, if_pos hc] at h; exact h
          cases h1
          exact snd_thr hdec hC hi hn hc
        · simp only [act, hn] at h
          rw [if_neg hc] at h
          exact nos h
      · simp only [act, hn] at h; exact nos h
  | _ => exact absurd (act_ctl h) (by simp [isCtl])
theorem snd (hdec : Dec) (htr : l.stackTraces = false) : ∀ (n k pc : Nat) (ls st : List Value) (bc bs : Nat) (hp : Hp) (out : Out) (hp' : Hp), go n k pc ls st bc bs hp = some (out, hp') →
    ∀ (p : Program) (e : Env) (R : Room) (s : State) (m : MethodId) (args : Array Value) (below : List Frame) (meth : Method) (c : Code) (ad0 : Nat → Nat) (n0 : Nat), Cx p l R s m meth c k lo D tA → (k = 232 → ∃ v, out = .inl v) → Wq p l e R s m args below meth c D tA lo k ad0 n0 out hp' pc ls st bc bs hp := by
  intro n
  induction n with
  | zero => intro k pc ls st bc bs hp out hp' h; exact absurd h (by simp [go])
  | succ n ih =>
    intro k pc ls st bc bs hp out hp' h p e R s m args below meth c ad0 n0 hC hv0
    rw [go] at h
    cases hi : ins k pc with
    | none => rw [hi] at h; exact absurd h (by simp)
    | some i =>
      rw [hi] at h
      dsimp only at h
      cases ha : act k i pc ls st bc bs hp with
      | none => rw [ha] at h; exact absurd h (by simp)
      | some x =>
        rw [ha] at h
        rcases x with ⟨pc', ls', st', bc', bs', hp2⟩ | o | ⟨k', as, rest⟩
        · exact snd_next hdec hC hi ha (ih _ _ _ _ _ _ _ _ _ h p e R s m args below meth c ad0 n0 hC hv0)
        · simp only [Option.some.injEq, Prod.mk.injEq] at h
          obtain ⟨rfl, rfl⟩ := h
          exact snd_end hdec hC hi ha
        · dsimp only at h
          by_cases hc : callOK k k' as rest bc bs = true
          · rw [if_pos hc] at h
            cases h1 : go n k' 0 (iniL k' as) [] (mcT k') (msT k') hp with
            | none => rw [h1] at h; exact absurd h (by simp)
            | some y =>
              rw [h1] at h
              obtain ⟨out1, hp1⟩ := y
              have hc2 := hc
              simp only [callOK, Bool.and_eq_true, decide_eq_true_eq, List.all_eq_true] at hc2
              obtain ⟨c1, c2, c3, c4, c5, c6, c7⟩ := hc2
              have hk2 : k' < 232 := by
                have := hgt_big k
                have h9 := (hgt_le k' c2).2
                by_cases h8 : k' = 232
                · have := h9 h8; omega
                · omega
              refine snd_call (hv0 := hv0) hdec hC hi ha hc hk2 (out1 := out1) (hp1 := hp1) (fun ad => MT_of htr c2 c6 c7 (fun p e R s m args below meth c _ _ hC2 => ih _ _ _ _ _ _ _ _ _ h1 p e R s m args below meth c ad hp.1 hC2 (fun h9 => absurd h9 (Nat.ne_of_lt hk2)))) (fun v hv => ?_) (fun x hx => ?_)
              · subst hv
                exact ih _ _ _ _ _ _ _ _ _ h p e R s m args below meth c ad0 n0 hC hv0
              · subst hx
                dsimp only at h
                cases hm : mH k with
                | nil =>
                  rw [hm] at h
                  simp only [Option.some.injEq, Prod.mk.injEq] at h
                  exact Or.inl ⟨rfl, h.1.symm, h.2.symm⟩
                | cons r0 rs =>
                  rw [hm] at h
                  dsimp only at h
                  cases hh : hndF k pc x (r0 :: rs) with
                  | none => rw [hh] at h; exact absurd h (by simp)
                  | some hd =>
                    rw [hh] at h
                    dsimp only at h
                    cases hs : hst k hd with
                    | none => rw [hs] at h; exact absurd h (by simp)
                    | some w =>
                      rw [hs] at h
                      obtain ⟨pc2, j⟩ := w
                      dsimp only at h
                      by_cases hj : j < ls.length ∧ pok ls j = true
                      · rw [if_pos hj] at h
                        exact Or.inr ⟨r0 :: rs, hd, pc2, j, rfl, hh, hs, hj, ih _ _ _ _ _ _ _ _ _ h p e R s m args below meth c ad0 n0 hC hv0⟩
                      · rw [if_neg hj] at h
                        exact absurd h (by simp)
          · rw [if_neg hc] at h
            exact absurd h (by simp)
end SND
