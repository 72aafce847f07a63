section STEP
variable {p : Program} {l : Launch} {e : Env} {R : Room} {s : State} {m : MethodId} {args : Array Value} {below : List Frame} {meth : Method} {c : Code} {Q : State → Prop} {D : va_G} {tA : Nat → ClassId} {lo k : Nat} {ad0 : Nat → Nat} {n0 : Nat}
variable {pc pc' : Nat} {ls ls' st st' : List Value} {bc bs bc' bs' : Nat} {hp hp' : Hp}
theorem nos {α : Type} {β : Prop} {x : α} (h : (none : Option α) = some x) : β := nomatch h
theorem ok_tl {n : Nat} {v : Value} {st : List Value} (h : ∀ w ∈ v :: st, okv n w) : ∀ w ∈ st, okv n w := fun w hw => h w (List.mem_cons_of_mem _ hw)
theorem ok_hd {n : Nat} {v : Value} {st : List Value} (h : ∀ w ∈ v :: st, okv n w) : okv n v := h v List.mem_cons_self
theorem ok_cs {n : Nat} {v : Value} {st : List Value} (h1 : okv n v) (h : ∀ w ∈ st, okv n w) : ∀ w ∈ v :: st, okv n w := List.forall_mem_cons.mpr ⟨h1, h⟩
theorem ok_set {n j : Nat} {v : Value} {ls : List Value} (h1 : okv n v) (h : ∀ w ∈ ls, okv n w) : ∀ w ∈ ls.set j v, okv n w := fun w hw => by
  rcases List.mem_or_eq_of_mem_set hw with h2 | h2
  · exact h w h2
  · rw [h2]; exact h1
theorem Wg.go (hk : Wg p l e R s m args below meth c Q D tA lo k ad0 n0 pc' ls st' bc bs hp) (hok : (∀ v ∈ st, okv hp.1 v) → (∀ v ∈ ls, okv hp.1 v) → ∀ v ∈ st', okv hp.1 v) (row : ∀ (H : Heap) (locs : List Loc) (lsr : Array Slot) (ad : Nat → Nat) (cells slots : Nat), LR ad (mL k) ls lsr → W p l e R s m args below meth c H locs cells slots Q (F0 m pc' lsr (st'.map (tr ad))) → W p l e R s m args below meth c H locs cells slots Q (F0 m pc lsr (st.map (tr ad)))) : Wg p l e R s m args below meth c Q D tA lo k ad0 n0 pc ls st bc bs hp := by
  intro H locs lsr ad cells slots hR h1 h2
  obtain ⟨r1, r2, ⟨r3, r4⟩, r5, r6⟩ := hR
  exact row H locs lsr ad cells slots r5 (hk H locs lsr ad cells slots ⟨r1, r2, ⟨hok r3 r4, r4⟩, r5, r6⟩ h1 h2)
theorem nn32_of {r : UInt32} (h : nn32 r = true) : vf_n32 r := of_decide_eq_true (p := r &&& 0x7fffffff ≤ 0x7f800000) h
theorem nn64_of {r : UInt64} (h : nn64 r = true) : vf_n64 r := of_decide_eq_true (p := r &&& 0x7fffffffffffffff ≤ 0x7ff0000000000000) h
theorem jmp_spec {pc t : Nat} {off : Int} (h : jmp pc off = some t) : (pc : Int) + off = (t : Int) := by
  unfold jmp at h
  split at h
  next t' he => cases h; exact he
  next => cases h

theorem n_iconst {n : Int} (hC : Cx p l R s m meth c k lo D tA) (hd : decode (mB k) pc = .ok ((.iconst n), 1)) (h : act k (.iconst n) pc ls st bc bs hp = some (.inl (pc', ls', st', bc', bs', hp'))) (hk : Wg p l e R s m args below meth c Q D tA lo k ad0 n0 pc' ls' st' bc' bs' hp') : Wg p l e R s m args below meth c Q D tA lo k ad0 n0 pc ls st bc bs hp := by
  obtain ⟨⟨hx, hb, hown, hml⟩, ⟨hlk, hr, hmn, hxt⟩, hF, hZ, hlo, hrm, htr⟩ := hC
  have h1 : (some (Sum.inl (pc + 1, ls, .int (Int32.ofInt n) :: st, bc, bs, hp)) : Option Act) = some (Sum.inl (pc', ls', st', bc', bs', hp')) := h
  cases h1
  exact hk.go (fun r _ => ok_cs trivial (r)) (fun H locs lsr ad cells slots hL kk => lv_iconst hx hb hd rfl kk)
theorem n_bipush {n : Int} (hC : Cx p l R s m meth c k lo D tA) (hd : decode (mB k) pc = .ok ((.bipush n), 2)) (h : act k (.bipush n) pc ls st bc bs hp = some (.inl (pc', ls', st', bc', bs', hp'))) (hk : Wg p l e R s m args below meth c Q D tA lo k ad0 n0 pc' ls' st' bc' bs' hp') : Wg p l e R s m args below meth c Q D tA lo k ad0 n0 pc ls st bc bs hp := by
  obtain ⟨⟨hx, hb, hown, hml⟩, ⟨hlk, hr, hmn, hxt⟩, hF, hZ, hlo, hrm, htr⟩ := hC
  have h1 : (some (Sum.inl (pc + 2, ls, .int (Int8.ofInt n).toInt32 :: st, bc, bs, hp)) : Option Act) = some (Sum.inl (pc', ls', st', bc', bs', hp')) := h
  cases h1
  exact hk.go (fun r _ => ok_cs trivial (r)) (fun H locs lsr ad cells slots hL kk => lv_bipush hx hb hd rfl kk)
theorem n_sipush {n : Int} (hC : Cx p l R s m meth c k lo D tA) (hd : decode (mB k) pc = .ok ((.sipush n), 3)) (h : act k (.sipush n) pc ls st bc bs hp = some (.inl (pc', ls', st', bc', bs', hp'))) (hk : Wg p l e R s m args below meth c Q D tA lo k ad0 n0 pc' ls' st' bc' bs' hp') : Wg p l e R s m args below meth c Q D tA lo k ad0 n0 pc ls st bc bs hp := by
  obtain ⟨⟨hx, hb, hown, hml⟩, ⟨hlk, hr, hmn, hxt⟩, hF, hZ, hlo, hrm, htr⟩ := hC
  have h1 : (some (Sum.inl (pc + 3, ls, .int (Int16.ofInt n).toInt32 :: st, bc, bs, hp)) : Option Act) = some (Sum.inl (pc', ls', st', bc', bs', hp')) := h
  cases h1
  exact hk.go (fun r _ => ok_cs trivial (r)) (fun H locs lsr ad cells slots hL kk => lv_sipush hx hb hd rfl kk)
theorem n_lconst {n : Fin 2} (hC : Cx p l R s m meth c k lo D tA) (hd : decode (mB k) pc = .ok ((.lconst n), 1)) (h : act k (.lconst n) pc ls st bc bs hp = some (.inl (pc', ls', st', bc', bs', hp'))) (hk : Wg p l e R s m args below meth c Q D tA lo k ad0 n0 pc' ls' st' bc' bs' hp') : Wg p l e R s m args below meth c Q D tA lo k ad0 n0 pc ls st bc bs hp := by
  obtain ⟨⟨hx, hb, hown, hml⟩, ⟨hlk, hr, hmn, hxt⟩, hF, hZ, hlo, hrm, htr⟩ := hC
  have h1 : (some (Sum.inl (pc + 1, ls, .long (Int64.ofNat (n : Nat)) :: st, bc, bs, hp)) : Option Act) = some (Sum.inl (pc', ls', st', bc', bs', hp')) := h
  cases h1
  exact hk.go (fun r _ => ok_cs trivial (r)) (fun H locs lsr ad cells slots hL kk => lv_lconst hx hb hd rfl kk)
theorem n_fconst0 (hC : Cx p l R s m meth c k lo D tA) (hd : decode (mB k) pc = .ok ((.fconst 0), 1)) (h : act k (.fconst 0) pc ls st bc bs hp = some (.inl (pc', ls', st', bc', bs', hp'))) (hk : Wg p l e R s m args below meth c Q D tA lo k ad0 n0 pc' ls' st' bc' bs' hp') : Wg p l e R s m args below meth c Q D tA lo k ad0 n0 pc ls st bc bs hp := by
  obtain ⟨⟨hx, hb, hown, hml⟩, ⟨hlk, hr, hmn, hxt⟩, hF, hZ, hlo, hrm, htr⟩ := hC
  have h1 : (some (Sum.inl (pc + 1, ls, .float FP.fconst0 :: st, bc, bs, hp)) : Option Act) = some (Sum.inl (pc', ls', st', bc', bs', hp')) := h
  cases h1
  exact hk.go (fun r _ => ok_cs trivial (r)) (fun H locs lsr ad cells slots hL kk => lv_fconst0 hx hb hd kk)
theorem n_fconst2 (hC : Cx p l R s m meth c k lo D tA) (hd : decode (mB k) pc = .ok ((.fconst 2), 1)) (h : act k (.fconst 2) pc ls st bc bs hp = some (.inl (pc', ls', st', bc', bs', hp'))) (hk : Wg p l e R s m args below meth c Q D tA lo k ad0 n0 pc' ls' st' bc' bs' hp') : Wg p l e R s m args below meth c Q D tA lo k ad0 n0 pc ls st bc bs hp := by
  obtain ⟨⟨hx, hb, hown, hml⟩, ⟨hlk, hr, hmn, hxt⟩, hF, hZ, hlo, hrm, htr⟩ := hC
  have h1 : (some (Sum.inl (pc + 1, ls, .float FP.fconst2 :: st, bc, bs, hp)) : Option Act) = some (Sum.inl (pc', ls', st', bc', bs', hp')) := h
  cases h1
  exact hk.go (fun r _ => ok_cs trivial (r)) (fun H locs lsr ad cells slots hL kk => lv_fconst2 hx hb hd kk)
theorem n_dconst0 (hC : Cx p l R s m meth c k lo D tA) (hd : decode (mB k) pc = .ok ((.dconst 0), 1)) (h : act k (.dconst 0) pc ls st bc bs hp = some (.inl (pc', ls', st', bc', bs', hp'))) (hk : Wg p l e R s m args below meth c Q D tA lo k ad0 n0 pc' ls' st' bc' bs' hp') : Wg p l e R s m args below meth c Q D tA lo k ad0 n0 pc ls st bc bs hp := by
  obtain ⟨⟨hx, hb, hown, hml⟩, ⟨hlk, hr, hmn, hxt⟩, hF, hZ, hlo, hrm, htr⟩ := hC
  have h1 : (some (Sum.inl (pc + 1, ls, .double FP.dconst0 :: st, bc, bs, hp)) : Option Act) = some (Sum.inl (pc', ls', st', bc', bs', hp')) := h
  cases h1
  exact hk.go (fun r _ => ok_cs trivial (r)) (fun H locs lsr ad cells slots hL kk => lv_dconst0 hx hb hd kk)
theorem n_dconst1 (hC : Cx p l R s m meth c k lo D tA) (hd : decode (mB k) pc = .ok ((.dconst 1), 1)) (h : act k (.dconst 1) pc ls st bc bs hp = some (.inl (pc', ls', st', bc', bs', hp'))) (hk : Wg p l e R s m args below meth c Q D tA lo k ad0 n0 pc' ls' st' bc' bs' hp') : Wg p l e R s m args below meth c Q D tA lo k ad0 n0 pc ls st bc bs hp := by
  obtain ⟨⟨hx, hb, hown, hml⟩, ⟨hlk, hr, hmn, hxt⟩, hF, hZ, hlo, hrm, htr⟩ := hC
  have h1 : (some (Sum.inl (pc + 1, ls, .double FP.dconst1 :: st, bc, bs, hp)) : Option Act) = some (Sum.inl (pc', ls', st', bc', bs', hp')) := h
  cases h1
  exact hk.go (fun r _ => ok_cs trivial (r)) (fun H locs lsr ad cells slots hL kk => lv_dconst1 hx hb hd kk)
theorem n_iadd (hC : Cx p l R s m meth c k lo D tA) (hd : decode (mB k) pc = .ok (.iadd, 1)) (h : act k .iadd pc ls st bc bs hp = some (.inl (pc', ls', st', bc', bs', hp'))) (hk : Wg p l e R s m args below meth c Q D tA lo k ad0 n0 pc' ls' st' bc' bs' hp') : Wg p l e R s m args below meth c Q D tA lo k ad0 n0 pc ls st bc bs hp := by
  obtain ⟨⟨hx, hb, hown, hml⟩, ⟨hlk, hr, hmn, hxt⟩, hF, hZ, hlo, hrm, htr⟩ := hC
  cases st with
  | nil => exact nos h
  | cons v0 st =>
    cases v0 with
    | int y =>
      cases st with
      | nil => exact nos h
      | cons v1 st =>
        cases v1 with
        | int x =>
          have h1 : (some (Sum.inl (pc + 1, ls, .int (x + y) :: st, bc, bs, hp)) : Option Act) = some (Sum.inl (pc', ls', st', bc', bs', hp')) := h
          cases h1
          exact hk.go (fun r _ => ok_cs trivial (ok_tl (ok_tl r))) (fun H locs lsr ad cells slots hL kk => lv_iadd hx hb hd kk)
        | _ => exact nos h
    | _ => exact nos h
theorem n_isub (hC : Cx p l R s m meth c k lo D tA) (hd : decode (mB k) pc = .ok (.isub, 1)) (h : act k .isub pc ls st bc bs hp = some (.inl (pc', ls', st', bc', bs', hp'))) (hk : Wg p l e R s m args below meth c Q D tA lo k ad0 n0 pc' ls' st' bc' bs' hp') : Wg p l e R s m args below meth c Q D tA lo k ad0 n0 pc ls st bc bs hp := by
  obtain ⟨⟨hx, hb, hown, hml⟩, ⟨hlk, hr, hmn, hxt⟩, hF, hZ, hlo, hrm, htr⟩ := hC
  cases st with
  | nil => exact nos h
  | cons v0 st =>
    cases v0 with
    | int y =>
      cases st with
      | nil => exact nos h
      | cons v1 st =>
        cases v1 with
        | int x =>
          have h1 : (some (Sum.inl (pc + 1, ls, .int (x - y) :: st, bc, bs, hp)) : Option Act) = some (Sum.inl (pc', ls', st', bc', bs', hp')) := h
          cases h1
          exact hk.go (fun r _ => ok_cs trivial (ok_tl (ok_tl r))) (fun H locs lsr ad cells slots hL kk => lv_isub hx hb hd kk)
        | _ => exact nos h
    | _ => exact nos h
theorem n_imul (hC : Cx p l R s m meth c k lo D tA) (hd : decode (mB k) pc = .ok (.imul, 1)) (h : act k .imul pc ls st bc bs hp = some (.inl (pc', ls', st', bc', bs', hp'))) (hk : Wg p l e R s m args below meth c Q D tA lo k ad0 n0 pc' ls' st' bc' bs' hp') : Wg p l e R s m args below meth c Q D tA lo k ad0 n0 pc ls st bc bs hp := by
  obtain ⟨⟨hx, hb, hown, hml⟩, ⟨hlk, hr, hmn, hxt⟩, hF, hZ, hlo, hrm, htr⟩ := hC
  cases st with
  | nil => exact nos h
  | cons v0 st =>
    cases v0 with
    | int y =>
      cases st with
      | nil => exact nos h
      | cons v1 st =>
        cases v1 with
        | int x =>
          have h1 : (some (Sum.inl (pc + 1, ls, .int (x * y) :: st, bc, bs, hp)) : Option Act) = some (Sum.inl (pc', ls', st', bc', bs', hp')) := h
          cases h1
          exact hk.go (fun r _ => ok_cs trivial (ok_tl (ok_tl r))) (fun H locs lsr ad cells slots hL kk => lv_imul hx hb hd kk)
        | _ => exact nos h
    | _ => exact nos h
theorem n_iand (hC : Cx p l R s m meth c k lo D tA) (hd : decode (mB k) pc = .ok (.iand, 1)) (h : act k .iand pc ls st bc bs hp = some (.inl (pc', ls', st', bc', bs', hp'))) (hk : Wg p l e R s m args below meth c Q D tA lo k ad0 n0 pc' ls' st' bc' bs' hp') : Wg p l e R s m args below meth c Q D tA lo k ad0 n0 pc ls st bc bs hp := by
  obtain ⟨⟨hx, hb, hown, hml⟩, ⟨hlk, hr, hmn, hxt⟩, hF, hZ, hlo, hrm, htr⟩ := hC
  cases st with
  | nil => exact nos h
  | cons v0 st =>
    cases v0 with
    | int y =>
      cases st with
      | nil => exact nos h
      | cons v1 st =>
        cases v1 with
        | int x =>
          have h1 : (some (Sum.inl (pc + 1, ls, .int (x &&& y) :: st, bc, bs, hp)) : Option Act) = some (Sum.inl (pc', ls', st', bc', bs', hp')) := h
          cases h1
          exact hk.go (fun r _ => ok_cs trivial (ok_tl (ok_tl r))) (fun H locs lsr ad cells slots hL kk => lv_iand hx hb hd kk)
        | _ => exact nos h
    | _ => exact nos h
theorem n_ishl (hC : Cx p l R s m meth c k lo D tA) (hd : decode (mB k) pc = .ok (.ishl, 1)) (h : act k .ishl pc ls st bc bs hp = some (.inl (pc', ls', st', bc', bs', hp'))) (hk : Wg p l e R s m args below meth c Q D tA lo k ad0 n0 pc' ls' st' bc' bs' hp') : Wg p l e R s m args below meth c Q D tA lo k ad0 n0 pc ls st bc bs hp := by
  obtain ⟨⟨hx, hb, hown, hml⟩, ⟨hlk, hr, hmn, hxt⟩, hF, hZ, hlo, hrm, htr⟩ := hC
  cases st with
  | nil => exact nos h
  | cons v0 st =>
    cases v0 with
    | int y =>
      cases st with
      | nil => exact nos h
      | cons v1 st =>
        cases v1 with
        | int x =>
          have h1 : (some (Sum.inl (pc + 1, ls, .int (x <<< (y &&& 31)) :: st, bc, bs, hp)) : Option Act) = some (Sum.inl (pc', ls', st', bc', bs', hp')) := h
          cases h1
          exact hk.go (fun r _ => ok_cs trivial (ok_tl (ok_tl r))) (fun H locs lsr ad cells slots hL kk => lv_ishl hx hb hd kk)
        | _ => exact nos h
    | _ => exact nos h
theorem n_ineg (hC : Cx p l R s m meth c k lo D tA) (hd : decode (mB k) pc = .ok (.ineg, 1)) (h : act k .ineg pc ls st bc bs hp = some (.inl (pc', ls', st', bc', bs', hp'))) (hk : Wg p l e R s m args below meth c Q D tA lo k ad0 n0 pc' ls' st' bc' bs' hp') : Wg p l e R s m args below meth c Q D tA lo k ad0 n0 pc ls st bc bs hp := by
  obtain ⟨⟨hx, hb, hown, hml⟩, ⟨hlk, hr, hmn, hxt⟩, hF, hZ, hlo, hrm, htr⟩ := hC
  cases st with
  | nil => exact nos h
  | cons v0 st =>
    cases v0 with
    | int x =>
      have h1 : (some (Sum.inl (pc + 1, ls, .int (-x) :: st, bc, bs, hp)) : Option Act) = some (Sum.inl (pc', ls', st', bc', bs', hp')) := h
      cases h1
      exact hk.go (fun r _ => ok_cs trivial (ok_tl r)) (fun H locs lsr ad cells slots hL kk => lv_ineg hx hb hd kk)
    | _ => exact nos h
theorem n_ladd (hC : Cx p l R s m meth c k lo D tA) (hd : decode (mB k) pc = .ok (.ladd, 1)) (h : act k .ladd pc ls st bc bs hp = some (.inl (pc', ls', st', bc', bs', hp'))) (hk : Wg p l e R s m args below meth c Q D tA lo k ad0 n0 pc' ls' st' bc' bs' hp') : Wg p l e R s m args below meth c Q D tA lo k ad0 n0 pc ls st bc bs hp := by
  obtain ⟨⟨hx, hb, hown, hml⟩, ⟨hlk, hr, hmn, hxt⟩, hF, hZ, hlo, hrm, htr⟩ := hC
  cases st with
  | nil => exact nos h
  | cons v0 st =>
    cases v0 with
    | long y =>
      cases st with
      | nil => exact nos h
      | cons v1 st =>
        cases v1 with
        | long x =>
          have h1 : (some (Sum.inl (pc + 1, ls, .long (x + y) :: st, bc, bs, hp)) : Option Act) = some (Sum.inl (pc', ls', st', bc', bs', hp')) := h
          cases h1
          exact hk.go (fun r _ => ok_cs trivial (ok_tl (ok_tl r))) (fun H locs lsr ad cells slots hL kk => lv_ladd hx hb hd kk)
        | _ => exact nos h
    | _ => exact nos h
theorem n_lcmp (hC : Cx p l R s m meth c k lo D tA) (hd : decode (mB k) pc = .ok (.lcmp, 1)) (h : act k .lcmp pc ls st bc bs hp = some (.inl (pc', ls', st', bc', bs', hp'))) (hk : Wg p l e R s m args below meth c Q D tA lo k ad0 n0 pc' ls' st' bc' bs' hp') : Wg p l e R s m args below meth c Q D tA lo k ad0 n0 pc ls st bc bs hp := by
  obtain ⟨⟨hx, hb, hown, hml⟩, ⟨hlk, hr, hmn, hxt⟩, hF, hZ, hlo, hrm, htr⟩ := hC
  cases st with
  | nil => exact nos h
  | cons v0 st =>
    cases v0 with
    | long y =>
      cases st with
      | nil => exact nos h
      | cons v1 st =>
        cases v1 with
        | long x =>
          have h1 : (some (Sum.inl (pc + 1, ls, .int (lg_cmp x y) :: st, bc, bs, hp)) : Option Act) = some (Sum.inl (pc', ls', st', bc', bs', hp')) := h
          cases h1
          exact hk.go (fun r _ => ok_cs trivial (ok_tl (ok_tl r))) (fun H locs lsr ad cells slots hL kk => W.lcmp hx hb hd kk)
        | _ => exact nos h
    | _ => exact nos h
theorem n_i2l (hC : Cx p l R s m meth c k lo D tA) (hd : decode (mB k) pc = .ok (.i2l, 1)) (h : act k .i2l pc ls st bc bs hp = some (.inl (pc', ls', st', bc', bs', hp'))) (hk : Wg p l e R s m args below meth c Q D tA lo k ad0 n0 pc' ls' st' bc' bs' hp') : Wg p l e R s m args below meth c Q D tA lo k ad0 n0 pc ls st bc bs hp := by
  obtain ⟨⟨hx, hb, hown, hml⟩, ⟨hlk, hr, hmn, hxt⟩, hF, hZ, hlo, hrm, htr⟩ := hC
  cases st with
  | nil => exact nos h
  | cons v0 st =>
    cases v0 with
    | int x =>
      have h1 : (some (Sum.inl (pc + 1, ls, .long x.toInt64 :: st, bc, bs, hp)) : Option Act) = some (Sum.inl (pc', ls', st', bc', bs', hp')) := h
      cases h1
      exact hk.go (fun r _ => ok_cs trivial (ok_tl r)) (fun H locs lsr ad cells slots hL kk => lv_i2l hx hb hd rfl kk)
    | _ => exact nos h
theorem n_i2c (hC : Cx p l R s m meth c k lo D tA) (hd : decode (mB k) pc = .ok (.i2c, 1)) (h : act k .i2c pc ls st bc bs hp = some (.inl (pc', ls', st', bc', bs', hp'))) (hk : Wg p l e R s m args below meth c Q D tA lo k ad0 n0 pc' ls' st' bc' bs' hp') : Wg p l e R s m args below meth c Q D tA lo k ad0 n0 pc ls st bc bs hp := by
  obtain ⟨⟨hx, hb, hown, hml⟩, ⟨hlk, hr, hmn, hxt⟩, hF, hZ, hlo, hrm, htr⟩ := hC
  cases st with
  | nil => exact nos h
  | cons v0 st =>
    cases v0 with
    | int x =>
      have h1 : (some (Sum.inl (pc + 1, ls, .int (x.toUInt32 % 65536).toInt32 :: st, bc, bs, hp)) : Option Act) = some (Sum.inl (pc', ls', st', bc', bs', hp')) := h
      cases h1
      exact hk.go (fun r _ => ok_cs trivial (ok_tl r)) (fun H locs lsr ad cells slots hL kk => lv_i2c hx hb hd rfl kk)
    | _ => exact nos h
theorem n_i2f (hC : Cx p l R s m meth c k lo D tA) (hd : decode (mB k) pc = .ok (.i2f, 1)) (h : act k .i2f pc ls st bc bs hp = some (.inl (pc', ls', st', bc', bs', hp'))) (hk : Wg p l e R s m args below meth c Q D tA lo k ad0 n0 pc' ls' st' bc' bs' hp') : Wg p l e R s m args below meth c Q D tA lo k ad0 n0 pc ls st bc bs hp := by
  obtain ⟨⟨hx, hb, hown, hml⟩, ⟨hlk, hr, hmn, hxt⟩, hF, hZ, hlo, hrm, htr⟩ := hC
  cases st with
  | nil => exact nos h
  | cons v0 st =>
    cases v0 with
    | int x =>
      have h1 : (some (Sum.inl (pc + 1, ls, .float (FP.i2f x) :: st, bc, bs, hp)) : Option Act) = some (Sum.inl (pc', ls', st', bc', bs', hp')) := h
      cases h1
      exact hk.go (fun r _ => ok_cs trivial (ok_tl r)) (fun H locs lsr ad cells slots hL kk => lv_i2f hx hb hd kk)
    | _ => exact nos h
theorem n_i2d (hC : Cx p l R s m meth c k lo D tA) (hd : decode (mB k) pc = .ok (.i2d, 1)) (h : act k .i2d pc ls st bc bs hp = some (.inl (pc', ls', st', bc', bs', hp'))) (hk : Wg p l e R s m args below meth c Q D tA lo k ad0 n0 pc' ls' st' bc' bs' hp') : Wg p l e R s m args below meth c Q D tA lo k ad0 n0 pc ls st bc bs hp := by
  obtain ⟨⟨hx, hb, hown, hml⟩, ⟨hlk, hr, hmn, hxt⟩, hF, hZ, hlo, hrm, htr⟩ := hC
  cases st with
  | nil => exact nos h
  | cons v0 st =>
    cases v0 with
    | int x =>
      have h1 : (some (Sum.inl (pc + 1, ls, .double (FP.i2d x) :: st, bc, bs, hp)) : Option Act) = some (Sum.inl (pc', ls', st', bc', bs', hp')) := h
      cases h1
      exact hk.go (fun r _ => ok_cs trivial (ok_tl r)) (fun H locs lsr ad cells slots hL kk => lv_i2d hx hb hd kk)
    | _ => exact nos h
theorem n_f2i (hC : Cx p l R s m meth c k lo D tA) (hd : decode (mB k) pc = .ok (.f2i, 1)) (h : act k .f2i pc ls st bc bs hp = some (.inl (pc', ls', st', bc', bs', hp'))) (hk : Wg p l e R s m args below meth c Q D tA lo k ad0 n0 pc' ls' st' bc' bs' hp') : Wg p l e R s m args below meth c Q D tA lo k ad0 n0 pc ls st bc bs hp := by
  obtain ⟨⟨hx, hb, hown, hml⟩, ⟨hlk, hr, hmn, hxt⟩, hF, hZ, hlo, hrm, htr⟩ := hC
  cases st with
  | nil => exact nos h
  | cons v0 st =>
    cases v0 with
    | float x =>
      have h1 : (some (Sum.inl (pc + 1, ls, .int (FP.f2i x) :: st, bc, bs, hp)) : Option Act) = some (Sum.inl (pc', ls', st', bc', bs', hp')) := h
      cases h1
      exact hk.go (fun r _ => ok_cs trivial (ok_tl r)) (fun H locs lsr ad cells slots hL kk => lv_f2i hx hb hd kk)
    | _ => exact nos h
theorem n_d2i (hC : Cx p l R s m meth c k lo D tA) (hd : decode (mB k) pc = .ok (.d2i, 1)) (h : act k .d2i pc ls st bc bs hp = some (.inl (pc', ls', st', bc', bs', hp'))) (hk : Wg p l e R s m args below meth c Q D tA lo k ad0 n0 pc' ls' st' bc' bs' hp') : Wg p l e R s m args below meth c Q D tA lo k ad0 n0 pc ls st bc bs hp := by
  obtain ⟨⟨hx, hb, hown, hml⟩, ⟨hlk, hr, hmn, hxt⟩, hF, hZ, hlo, hrm, htr⟩ := hC
  cases st with
  | nil => exact nos h
  | cons v0 st =>
    cases v0 with
    | double x =>
      have h1 : (some (Sum.inl (pc + 1, ls, .int (FP.d2i x) :: st, bc, bs, hp)) : Option Act) = some (Sum.inl (pc', ls', st', bc', bs', hp')) := h
      cases h1
      exact hk.go (fun r _ => ok_cs trivial (ok_tl r)) (fun H locs lsr ad cells slots hL kk => lv_d2i hx hb hd kk)
    | _ => exact nos h
theorem n_fcmp {o : CmpOp} (hC : Cx p l R s m meth c k lo D tA) (hd : decode (mB k) pc = .ok ((.fcmp o), 1)) (h : act k (.fcmp o) pc ls st bc bs hp = some (.inl (pc', ls', st', bc', bs', hp'))) (hk : Wg p l e R s m args below meth c Q D tA lo k ad0 n0 pc' ls' st' bc' bs' hp') : Wg p l e R s m args below meth c Q D tA lo k ad0 n0 pc ls st bc bs hp := by
  obtain ⟨⟨hx, hb, hown, hml⟩, ⟨hlk, hr, hmn, hxt⟩, hF, hZ, hlo, hrm, htr⟩ := hC
  cases st with
  | nil => exact nos h
  | cons v0 st =>
    cases v0 with
    | float y =>
      cases st with
      | nil => exact nos h
      | cons v1 st =>
        cases v1 with
        | float x =>
          have h1 : (some (Sum.inl (pc + 1, ls, .int (Op.cmpValue (FP.fcmp x y) o) :: st, bc, bs, hp)) : Option Act) = some (Sum.inl (pc', ls', st', bc', bs', hp')) := h
          cases h1
          exact hk.go (fun r _ => ok_cs trivial (ok_tl (ok_tl r))) (fun H locs lsr ad cells slots hL kk => lv_fcmp hx hb hd kk)
        | _ => exact nos h
    | _ => exact nos h
theorem n_dcmp {o : CmpOp} (hC : Cx p l R s m meth c k lo D tA) (hd : decode (mB k) pc = .ok ((.dcmp o), 1)) (h : act k (.dcmp o) pc ls st bc bs hp = some (.inl (pc', ls', st', bc', bs', hp'))) (hk : Wg p l e R s m args below meth c Q D tA lo k ad0 n0 pc' ls' st' bc' bs' hp') : Wg p l e R s m args below meth c Q D tA lo k ad0 n0 pc ls st bc bs hp := by
  obtain ⟨⟨hx, hb, hown, hml⟩, ⟨hlk, hr, hmn, hxt⟩, hF, hZ, hlo, hrm, htr⟩ := hC
  cases st with
  | nil => exact nos h
  | cons v0 st =>
    cases v0 with
    | double y =>
      cases st with
      | nil => exact nos h
      | cons v1 st =>
        cases v1 with
        | double x =>
          have h1 : (some (Sum.inl (pc + 1, ls, .int (Op.cmpValue (FP.dcmp x y) o) :: st, bc, bs, hp)) : Option Act) = some (Sum.inl (pc', ls', st', bc', bs', hp')) := h
          cases h1
          exact hk.go (fun r _ => ok_cs trivial (ok_tl (ok_tl r))) (fun H locs lsr ad cells slots hL kk => lv_dcmp hx hb hd kk)
        | _ => exact nos h
    | _ => exact nos h
theorem n_idiv (hC : Cx p l R s m meth c k lo D tA) (hd : decode (mB k) pc = .ok (.idiv, 1)) (h : act k .idiv pc ls st bc bs hp = some (.inl (pc', ls', st', bc', bs', hp'))) (hk : Wg p l e R s m args below meth c Q D tA lo k ad0 n0 pc' ls' st' bc' bs' hp') : Wg p l e R s m args below meth c Q D tA lo k ad0 n0 pc ls st bc bs hp := by
  obtain ⟨⟨hx, hb, hown, hml⟩, ⟨hlk, hr, hmn, hxt⟩, hF, hZ, hlo, hrm, htr⟩ := hC
  cases st with
  | nil => exact nos h
  | cons v0 st =>
    cases v0 with
    | int y =>
      cases st with
      | nil => exact nos h
      | cons v1 st =>
        cases v1 with
        | int x =>
          have h0 : (if y = 0 then none else nx (pc + 1) ls (.int (x / y) :: st) bc bs hp) = some (Sum.inl (pc', ls', st', bc', bs', hp')) := h
          by_cases hc : y = 0
          · rw [if_pos hc] at h0
            exact nos h0
          · have h1 : (some (Sum.inl (pc + 1, ls, .int (x / y) :: st, bc, bs, hp)) : Option Act) = some (Sum.inl (pc', ls', st', bc', bs', hp')) := by rw [if_neg hc] at h0; exact h0
            cases h1
            exact hk.go (fun r _ => ok_cs trivial (ok_tl (ok_tl r))) (fun H locs lsr ad cells slots hL kk => lv_idiv hx hb hd hc kk)
        | _ => exact nos h
    | _ => exact nos h
theorem n_irem (hC : Cx p l R s m meth c k lo D tA) (hd : decode (mB k) pc = .ok (.irem, 1)) (h : act k .irem pc ls st bc bs hp = some (.inl (pc', ls', st', bc', bs', hp'))) (hk : Wg p l e R s m args below meth c Q D tA lo k ad0 n0 pc' ls' st' bc' bs' hp') : Wg p l e R s m args below meth c Q D tA lo k ad0 n0 pc ls st bc bs hp := by
  obtain ⟨⟨hx, hb, hown, hml⟩, ⟨hlk, hr, hmn, hxt⟩, hF, hZ, hlo, hrm, htr⟩ := hC
  cases st with
  | nil => exact nos h
  | cons v0 st =>
    cases v0 with
    | int y =>
      cases st with
      | nil => exact nos h
      | cons v1 st =>
        cases v1 with
        | int x =>
          have h0 : (if y = 0 then none else nx (pc + 1) ls (.int (x - x / y * y) :: st) bc bs hp) = some (Sum.inl (pc', ls', st', bc', bs', hp')) := h
          by_cases hc : y = 0
          · rw [if_pos hc] at h0
            exact nos h0
          · have h1 : (some (Sum.inl (pc + 1, ls, .int (x - x / y * y) :: st, bc, bs, hp)) : Option Act) = some (Sum.inl (pc', ls', st', bc', bs', hp')) := by rw [if_neg hc] at h0; exact h0
            cases h1
            exact hk.go (fun r _ => ok_cs trivial (ok_tl (ok_tl r))) (fun H locs lsr ad cells slots hL kk => lv_irem hx hb hd hc kk)
        | _ => exact nos h
    | _ => exact nos h
theorem n_f2d (hC : Cx p l R s m meth c k lo D tA) (hd : decode (mB k) pc = .ok (.f2d, 1)) (h : act k .f2d pc ls st bc bs hp = some (.inl (pc', ls', st', bc', bs', hp'))) (hk : Wg p l e R s m args below meth c Q D tA lo k ad0 n0 pc' ls' st' bc' bs' hp') : Wg p l e R s m args below meth c Q D tA lo k ad0 n0 pc ls st bc bs hp := by
  obtain ⟨⟨hx, hb, hown, hml⟩, ⟨hlk, hr, hmn, hxt⟩, hF, hZ, hlo, hrm, htr⟩ := hC
  cases st with
  | nil => exact nos h
  | cons v0 st =>
    cases v0 with
    | float x =>
      have h0 : (if nn64 (FP.f2d x) = true then nx (pc + 1) ls (.double (FP.f2d x) :: st) bc bs hp else none) = some (Sum.inl (pc', ls', st', bc', bs', hp')) := h
      by_cases hc : nn64 (FP.f2d x) = true
      · have h1 : (some (Sum.inl (pc + 1, ls, .double (FP.f2d x) :: st, bc, bs, hp)) : Option Act) = some (Sum.inl (pc', ls', st', bc', bs', hp')) := by rw [if_pos hc] at h0; exact h0
        cases h1
        exact hk.go (fun r _ => ok_cs trivial (ok_tl r)) (fun H locs lsr ad cells slots hL kk => lv_f2d hx hb hd (nn64_of hc) kk)
      · rw [if_neg hc] at h0
        exact nos h0
    | _ => exact nos h
theorem n_fadd (hC : Cx p l R s m meth c k lo D tA) (hd : decode (mB k) pc = .ok (.fadd, 1)) (h : act k .fadd pc ls st bc bs hp = some (.inl (pc', ls', st', bc', bs', hp'))) (hk : Wg p l e R s m args below meth c Q D tA lo k ad0 n0 pc' ls' st' bc' bs' hp') : Wg p l e R s m args below meth c Q D tA lo k ad0 n0 pc ls st bc bs hp := by
  obtain ⟨⟨hx, hb, hown, hml⟩, ⟨hlk, hr, hmn, hxt⟩, hF, hZ, hlo, hrm, htr⟩ := hC
  cases st with
  | nil => exact nos h
  | cons v0 st =>
    cases v0 with
    | float y =>
      cases st with
      | nil => exact nos h
      | cons v1 st =>
        cases v1 with
        | float x =>
          have h0 : (if nn32 (FP.fadd x y) = true then nx (pc + 1) ls (.float (FP.fadd x y) :: st) bc bs hp else none) = some (Sum.inl (pc', ls', st', bc', bs', hp')) := h
          by_cases hc : nn32 (FP.fadd x y) = true
          · have h1 : (some (Sum.inl (pc + 1, ls, .float (FP.fadd x y) :: st, bc, bs, hp)) : Option Act) = some (Sum.inl (pc', ls', st', bc', bs', hp')) := by rw [if_pos hc] at h0; exact h0
            cases h1
            exact hk.go (fun r _ => ok_cs trivial (ok_tl (ok_tl r))) (fun H locs lsr ad cells slots hL kk => lv_fadd hx hb hd (nn32_of hc) kk)
          · rw [if_neg hc] at h0
            exact nos h0
        | _ => exact nos h
    | _ => exact nos h
theorem n_fsub (hC : Cx p l R s m meth c k lo D tA) (hd : decode (mB k) pc = .ok (.fsub, 1)) (h : act k .fsub pc ls st bc bs hp = some (.inl (pc', ls', st', bc', bs', hp'))) (hk : Wg p l e R s m args below meth c Q D tA lo k ad0 n0 pc' ls' st' bc' bs' hp') : Wg p l e R s m args below meth c Q D tA lo k ad0 n0 pc ls st bc bs hp := by
  obtain ⟨⟨hx, hb, hown, hml⟩, ⟨hlk, hr, hmn, hxt⟩, hF, hZ, hlo, hrm, htr⟩ := hC
  cases st with
  | nil => exact nos h
  | cons v0 st =>
    cases v0 with
    | float y =>
      cases st with
      | nil => exact nos h
      | cons v1 st =>
        cases v1 with
        | float x =>
          have h0 : (if nn32 (FP.fsub x y) = true then nx (pc + 1) ls (.float (FP.fsub x y) :: st) bc bs hp else none) = some (Sum.inl (pc', ls', st', bc', bs', hp')) := h
          by_cases hc : nn32 (FP.fsub x y) = true
          · have h1 : (some (Sum.inl (pc + 1, ls, .float (FP.fsub x y) :: st, bc, bs, hp)) : Option Act) = some (Sum.inl (pc', ls', st', bc', bs', hp')) := by rw [if_pos hc] at h0; exact h0
            cases h1
            exact hk.go (fun r _ => ok_cs trivial (ok_tl (ok_tl r))) (fun H locs lsr ad cells slots hL kk => lv_fsub hx hb hd (nn32_of hc) kk)
          · rw [if_neg hc] at h0
            exact nos h0
        | _ => exact nos h
    | _ => exact nos h
theorem n_fmul (hC : Cx p l R s m meth c k lo D tA) (hd : decode (mB k) pc = .ok (.fmul, 1)) (h : act k .fmul pc ls st bc bs hp = some (.inl (pc', ls', st', bc', bs', hp'))) (hk : Wg p l e R s m args below meth c Q D tA lo k ad0 n0 pc' ls' st' bc' bs' hp') : Wg p l e R s m args below meth c Q D tA lo k ad0 n0 pc ls st bc bs hp := by
  obtain ⟨⟨hx, hb, hown, hml⟩, ⟨hlk, hr, hmn, hxt⟩, hF, hZ, hlo, hrm, htr⟩ := hC
  cases st with
  | nil => exact nos h
  | cons v0 st =>
    cases v0 with
    | float y =>
      cases st with
      | nil => exact nos h
      | cons v1 st =>
        cases v1 with
        | float x =>
          have h0 : (if nn32 (FP.fmul x y) = true then nx (pc + 1) ls (.float (FP.fmul x y) :: st) bc bs hp else none) = some (Sum.inl (pc', ls', st', bc', bs', hp')) := h
          by_cases hc : nn32 (FP.fmul x y) = true
          · have h1 : (some (Sum.inl (pc + 1, ls, .float (FP.fmul x y) :: st, bc, bs, hp)) : Option Act) = some (Sum.inl (pc', ls', st', bc', bs', hp')) := by rw [if_pos hc] at h0; exact h0
            cases h1
            exact hk.go (fun r _ => ok_cs trivial (ok_tl (ok_tl r))) (fun H locs lsr ad cells slots hL kk => lv_fmul hx hb hd (nn32_of hc) kk)
          · rw [if_neg hc] at h0
            exact nos h0
        | _ => exact nos h
    | _ => exact nos h
theorem n_fdiv (hC : Cx p l R s m meth c k lo D tA) (hd : decode (mB k) pc = .ok (.fdiv, 1)) (h : act k .fdiv pc ls st bc bs hp = some (.inl (pc', ls', st', bc', bs', hp'))) (hk : Wg p l e R s m args below meth c Q D tA lo k ad0 n0 pc' ls' st' bc' bs' hp') : Wg p l e R s m args below meth c Q D tA lo k ad0 n0 pc ls st bc bs hp := by
  obtain ⟨⟨hx, hb, hown, hml⟩, ⟨hlk, hr, hmn, hxt⟩, hF, hZ, hlo, hrm, htr⟩ := hC
  cases st with
  | nil => exact nos h
  | cons v0 st =>
    cases v0 with
    | float y =>
      cases st with
      | nil => exact nos h
      | cons v1 st =>
        cases v1 with
        | float x =>
          have h0 : (if nn32 (FP.fdiv x y) = true then nx (pc + 1) ls (.float (FP.fdiv x y) :: st) bc bs hp else none) = some (Sum.inl (pc', ls', st', bc', bs', hp')) := h
          by_cases hc : nn32 (FP.fdiv x y) = true
          · have h1 : (some (Sum.inl (pc + 1, ls, .float (FP.fdiv x y) :: st, bc, bs, hp)) : Option Act) = some (Sum.inl (pc', ls', st', bc', bs', hp')) := by rw [if_pos hc] at h0; exact h0
            cases h1
            exact hk.go (fun r _ => ok_cs trivial (ok_tl (ok_tl r))) (fun H locs lsr ad cells slots hL kk => lv_fdiv hx hb hd (nn32_of hc) kk)
          · rw [if_neg hc] at h0
            exact nos h0
        | _ => exact nos h
    | _ => exact nos h
theorem n_dmul (hC : Cx p l R s m meth c k lo D tA) (hd : decode (mB k) pc = .ok (.dmul, 1)) (h : act k .dmul pc ls st bc bs hp = some (.inl (pc', ls', st', bc', bs', hp'))) (hk : Wg p l e R s m args below meth c Q D tA lo k ad0 n0 pc' ls' st' bc' bs' hp') : Wg p l e R s m args below meth c Q D tA lo k ad0 n0 pc ls st bc bs hp := by
  obtain ⟨⟨hx, hb, hown, hml⟩, ⟨hlk, hr, hmn, hxt⟩, hF, hZ, hlo, hrm, htr⟩ := hC
  cases st with
  | nil => exact nos h
  | cons v0 st =>
    cases v0 with
    | double y =>
      cases st with
      | nil => exact nos h
      | cons v1 st =>
        cases v1 with
        | double x =>
          have h0 : (if nn64 (FP.dmul x y) = true then nx (pc + 1) ls (.double (FP.dmul x y) :: st) bc bs hp else none) = some (Sum.inl (pc', ls', st', bc', bs', hp')) := h
          by_cases hc : nn64 (FP.dmul x y) = true
          · have h1 : (some (Sum.inl (pc + 1, ls, .double (FP.dmul x y) :: st, bc, bs, hp)) : Option Act) = some (Sum.inl (pc', ls', st', bc', bs', hp')) := by rw [if_pos hc] at h0; exact h0
            cases h1
            exact hk.go (fun r _ => ok_cs trivial (ok_tl (ok_tl r))) (fun H locs lsr ad cells slots hL kk => lv_dmul hx hb hd (nn64_of hc) kk)
          · rw [if_neg hc] at h0
            exact nos h0
        | _ => exact nos h
    | _ => exact nos h
theorem n_ddiv (hC : Cx p l R s m meth c k lo D tA) (hd : decode (mB k) pc = .ok (.ddiv, 1)) (h : act k .ddiv pc ls st bc bs hp = some (.inl (pc', ls', st', bc', bs', hp'))) (hk : Wg p l e R s m args below meth c Q D tA lo k ad0 n0 pc' ls' st' bc' bs' hp') : Wg p l e R s m args below meth c Q D tA lo k ad0 n0 pc ls st bc bs hp := by
  obtain ⟨⟨hx, hb, hown, hml⟩, ⟨hlk, hr, hmn, hxt⟩, hF, hZ, hlo, hrm, htr⟩ := hC
  cases st with
  | nil => exact nos h
  | cons v0 st =>
    cases v0 with
    | double y =>
      cases st with
      | nil => exact nos h
      | cons v1 st =>
        cases v1 with
        | double x =>
          have h0 : (if nn64 (FP.ddiv x y) = true then nx (pc + 1) ls (.double (FP.ddiv x y) :: st) bc bs hp else none) = some (Sum.inl (pc', ls', st', bc', bs', hp')) := h
          by_cases hc : nn64 (FP.ddiv x y) = true
          · have h1 : (some (Sum.inl (pc + 1, ls, .double (FP.ddiv x y) :: st, bc, bs, hp)) : Option Act) = some (Sum.inl (pc', ls', st', bc', bs', hp')) := by rw [if_pos hc] at h0; exact h0
            cases h1
            exact hk.go (fun r _ => ok_cs trivial (ok_tl (ok_tl r))) (fun H locs lsr ad cells slots hL kk => lv_ddiv hx hb hd (nn64_of hc) kk)
          · rw [if_neg hc] at h0
            exact nos h0
        | _ => exact nos h
    | _ => exact nos h
theorem n_aload_n {j : Fin 4} (hC : Cx p l R s m meth c k lo D tA) (hd : decode (mB k) pc = .ok ((.aload_n j), 1)) (h : act k (.aload_n j) pc ls st bc bs hp = some (.inl (pc', ls', st', bc', bs', hp'))) (hk : Wg p l e R s m args below meth c Q D tA lo k ad0 n0 pc' ls' st' bc' bs' hp') : Wg p l e R s m args below meth c Q D tA lo k ad0 n0 pc ls st bc bs hp := by
  obtain ⟨⟨hx, hb, hown, hml⟩, ⟨hlk, hr, hmn, hxt⟩, hF, hZ, hlo, hrm, htr⟩ := hC
  cases hl : ls[(j : Nat)]? with
  | none => simp only [act, hl] at h; exact nos h
  | some v =>
    cases v with
    | ref a =>
      have h1 : (some (Sum.inl (pc + 1, ls, .ref a :: st, bc, bs, hp)) : Option Act) = some (Sum.inl (pc', ls', st', bc', bs', hp')) := by simp only [act, hl] at h; exact h
      cases h1
      exact hk.go (fun r r2 => ok_cs (r2 _ (List.mem_of_getElem? hl)) r) (fun H locs lsr ad cells slots hL kk => lv_aload_n hx hb hd rfl (hL.at hl (fun q => by cases q)) kk)
    | _ => simp only [act, hl] at h; exact nos h
theorem n_aload {j : Nat} (hC : Cx p l R s m meth c k lo D tA) (hd : decode (mB k) pc = .ok ((.aload j), 2)) (h : act k (.aload j) pc ls st bc bs hp = some (.inl (pc', ls', st', bc', bs', hp'))) (hk : Wg p l e R s m args below meth c Q D tA lo k ad0 n0 pc' ls' st' bc' bs' hp') : Wg p l e R s m args below meth c Q D tA lo k ad0 n0 pc ls st bc bs hp := by
  obtain ⟨⟨hx, hb, hown, hml⟩, ⟨hlk, hr, hmn, hxt⟩, hF, hZ, hlo, hrm, htr⟩ := hC
  cases hl : ls[j]? with
  | none => simp only [act, hl] at h; exact nos h
  | some v =>
    cases v with
    | ref a =>
      have h1 : (some (Sum.inl (pc + 2, ls, .ref a :: st, bc, bs, hp)) : Option Act) = some (Sum.inl (pc', ls', st', bc', bs', hp')) := by simp only [act, hl] at h; exact h
      cases h1
      exact hk.go (fun r r2 => ok_cs (r2 _ (List.mem_of_getElem? hl)) r) (fun H locs lsr ad cells slots hL kk => lv_aload hx hb hd (hL.at hl (fun q => by cases q)) kk)
    | _ => simp only [act, hl] at h; exact nos h
theorem n_iload_n {j : Fin 4} (hC : Cx p l R s m meth c k lo D tA) (hd : decode (mB k) pc = .ok ((.iload_n j), 1)) (h : act k (.iload_n j) pc ls st bc bs hp = some (.inl (pc', ls', st', bc', bs', hp'))) (hk : Wg p l e R s m args below meth c Q D tA lo k ad0 n0 pc' ls' st' bc' bs' hp') : Wg p l e R s m args below meth c Q D tA lo k ad0 n0 pc ls st bc bs hp := by
  obtain ⟨⟨hx, hb, hown, hml⟩, ⟨hlk, hr, hmn, hxt⟩, hF, hZ, hlo, hrm, htr⟩ := hC
  cases hl : ls[(j : Nat)]? with
  | none => simp only [act, hl] at h; exact nos h
  | some v =>
    cases v with
    | int a =>
      have h1 : (some (Sum.inl (pc + 1, ls, .int a :: st, bc, bs, hp)) : Option Act) = some (Sum.inl (pc', ls', st', bc', bs', hp')) := by simp only [act, hl] at h; exact h
      cases h1
      exact hk.go (fun r r2 => ok_cs (trivial) r) (fun H locs lsr ad cells slots hL kk => lv_iload_n hx hb hd rfl (hL.at hl (fun q => by cases q)) kk)
    | _ => simp only [act, hl] at h; exact nos h
theorem n_iload {j : Nat} (hC : Cx p l R s m meth c k lo D tA) (hd : decode (mB k) pc = .ok ((.iload j), 2)) (h : act k (.iload j) pc ls st bc bs hp = some (.inl (pc', ls', st', bc', bs', hp'))) (hk : Wg p l e R s m args below meth c Q D tA lo k ad0 n0 pc' ls' st' bc' bs' hp') : Wg p l e R s m args below meth c Q D tA lo k ad0 n0 pc ls st bc bs hp := by
  obtain ⟨⟨hx, hb, hown, hml⟩, ⟨hlk, hr, hmn, hxt⟩, hF, hZ, hlo, hrm, htr⟩ := hC
  cases hl : ls[j]? with
  | none => simp only [act, hl] at h; exact nos h
  | some v =>
    cases v with
    | int a =>
      have h1 : (some (Sum.inl (pc + 2, ls, .int a :: st, bc, bs, hp)) : Option Act) = some (Sum.inl (pc', ls', st', bc', bs', hp')) := by simp only [act, hl] at h; exact h
      cases h1
      exact hk.go (fun r r2 => ok_cs (trivial) r) (fun H locs lsr ad cells slots hL kk => lv_iload hx hb hd (hL.at hl (fun q => by cases q)) kk)
    | _ => simp only [act, hl] at h; exact nos h
theorem n_fload_n {j : Fin 4} (hC : Cx p l R s m meth c k lo D tA) (hd : decode (mB k) pc = .ok ((.fload_n j), 1)) (h : act k (.fload_n j) pc ls st bc bs hp = some (.inl (pc', ls', st', bc', bs', hp'))) (hk : Wg p l e R s m args below meth c Q D tA lo k ad0 n0 pc' ls' st' bc' bs' hp') : Wg p l e R s m args below meth c Q D tA lo k ad0 n0 pc ls st bc bs hp := by
  obtain ⟨⟨hx, hb, hown, hml⟩, ⟨hlk, hr, hmn, hxt⟩, hF, hZ, hlo, hrm, htr⟩ := hC
  cases hl : ls[(j : Nat)]? with
  | none => simp only [act, hl] at h; exact nos h
  | some v =>
    cases v with
    | float a =>
      have h1 : (some (Sum.inl (pc + 1, ls, .float a :: st, bc, bs, hp)) : Option Act) = some (Sum.inl (pc', ls', st', bc', bs', hp')) := by simp only [act, hl] at h; exact h
      cases h1
      exact hk.go (fun r r2 => ok_cs (trivial) r) (fun H locs lsr ad cells slots hL kk => lv_fload_n hx hb hd rfl (hL.at hl (fun q => by cases q)) kk)
    | _ => simp only [act, hl] at h; exact nos h
theorem n_fload {j : Nat} (hC : Cx p l R s m meth c k lo D tA) (hd : decode (mB k) pc = .ok ((.fload j), 2)) (h : act k (.fload j) pc ls st bc bs hp = some (.inl (pc', ls', st', bc', bs', hp'))) (hk : Wg p l e R s m args below meth c Q D tA lo k ad0 n0 pc' ls' st' bc' bs' hp') : Wg p l e R s m args below meth c Q D tA lo k ad0 n0 pc ls st bc bs hp := by
  obtain ⟨⟨hx, hb, hown, hml⟩, ⟨hlk, hr, hmn, hxt⟩, hF, hZ, hlo, hrm, htr⟩ := hC
  cases hl : ls[j]? with
  | none => simp only [act, hl] at h; exact nos h
  | some v =>
    cases v with
    | float a =>
      have h1 : (some (Sum.inl (pc + 2, ls, .float a :: st, bc, bs, hp)) : Option Act) = some (Sum.inl (pc', ls', st', bc', bs', hp')) := by simp only [act, hl] at h; exact h
      cases h1
      exact hk.go (fun r r2 => ok_cs (trivial) r) (fun H locs lsr ad cells slots hL kk => lv_fload hx hb hd (hL.at hl (fun q => by cases q)) kk)
    | _ => simp only [act, hl] at h; exact nos h
theorem n_dload_n {j : Fin 4} (hC : Cx p l R s m meth c k lo D tA) (hd : decode (mB k) pc = .ok ((.dload_n j), 1)) (h : act k (.dload_n j) pc ls st bc bs hp = some (.inl (pc', ls', st', bc', bs', hp'))) (hk : Wg p l e R s m args below meth c Q D tA lo k ad0 n0 pc' ls' st' bc' bs' hp') : Wg p l e R s m args below meth c Q D tA lo k ad0 n0 pc ls st bc bs hp := by
  obtain ⟨⟨hx, hb, hown, hml⟩, ⟨hlk, hr, hmn, hxt⟩, hF, hZ, hlo, hrm, htr⟩ := hC
  cases hl : ls[(j : Nat)]? with
  | none => simp only [act, hl] at h; exact nos h
  | some v =>
    cases v with
    | double a =>
      have h1 : (some (Sum.inl (pc + 1, ls, .double a :: st, bc, bs, hp)) : Option Act) = some (Sum.inl (pc', ls', st', bc', bs', hp')) := by simp only [act, hl] at h; exact h
      cases h1
      exact hk.go (fun r r2 => ok_cs (trivial) r) (fun H locs lsr ad cells slots hL kk => lv_dload_n hx hb hd rfl (hL.at hl (fun q => by cases q)) kk)
    | _ => simp only [act, hl] at h; exact nos h
theorem n_dload {j : Nat} (hC : Cx p l R s m meth c k lo D tA) (hd : decode (mB k) pc = .ok ((.dload j), 2)) (h : act k (.dload j) pc ls st bc bs hp = some (.inl (pc', ls', st', bc', bs', hp'))) (hk : Wg p l e R s m args below meth c Q D tA lo k ad0 n0 pc' ls' st' bc' bs' hp') : Wg p l e R s m args below meth c Q D tA lo k ad0 n0 pc ls st bc bs hp := by
  obtain ⟨⟨hx, hb, hown, hml⟩, ⟨hlk, hr, hmn, hxt⟩, hF, hZ, hlo, hrm, htr⟩ := hC
  cases hl : ls[j]? with
  | none => simp only [act, hl] at h; exact nos h
  | some v =>
    cases v with
    | double a =>
      have h1 : (some (Sum.inl (pc + 2, ls, .double a :: st, bc, bs, hp)) : Option Act) = some (Sum.inl (pc', ls', st', bc', bs', hp')) := by simp only [act, hl] at h; exact h
      cases h1
      exact hk.go (fun r r2 => ok_cs (trivial) r) (fun H locs lsr ad cells slots hL kk => lv_dload hx hb hd (hL.at hl (fun q => by cases q)) kk)
    | _ => simp only [act, hl] at h; exact nos h
theorem n_lload_n {j : Fin 4} (hC : Cx p l R s m meth c k lo D tA) (hd : decode (mB k) pc = .ok ((.lload_n j), 1)) (h : act k (.lload_n j) pc ls st bc bs hp = some (.inl (pc', ls', st', bc', bs', hp'))) (hk : Wg p l e R s m args below meth c Q D tA lo k ad0 n0 pc' ls' st' bc' bs' hp') : Wg p l e R s m args below meth c Q D tA lo k ad0 n0 pc ls st bc bs hp := by
  obtain ⟨⟨hx, hb, hown, hml⟩, ⟨hlk, hr, hmn, hxt⟩, hF, hZ, hlo, hrm, htr⟩ := hC
  cases hl : ls[(j : Nat)]? with
  | none => simp only [act, hl] at h; exact nos h
  | some v =>
    cases v with
    | long a =>
      have h1 : (some (Sum.inl (pc + 1, ls, .long a :: st, bc, bs, hp)) : Option Act) = some (Sum.inl (pc', ls', st', bc', bs', hp')) := by simp only [act, hl] at h; exact h
      cases h1
      exact hk.go (fun r r2 => ok_cs (trivial) r) (fun H locs lsr ad cells slots hL kk => lv_lload_n hx hb hd rfl (hL.at hl (fun q => by cases q)) kk)
    | _ => simp only [act, hl] at h; exact nos h
theorem n_istore_n {j : Fin 4} (hC : Cx p l R s m meth c k lo D tA) (hd : decode (mB k) pc = .ok ((.istore_n j), 1)) (h : act k (.istore_n j) pc ls st bc bs hp = some (.inl (pc', ls', st', bc', bs', hp'))) (hk : Wg p l e R s m args below meth c Q D tA lo k ad0 n0 pc' ls' st' bc' bs' hp') : Wg p l e R s m args below meth c Q D tA lo k ad0 n0 pc ls st bc bs hp := by
  obtain ⟨⟨hx, hb, hown, hml⟩, ⟨hlk, hr, hmn, hxt⟩, hF, hZ, hlo, hrm, htr⟩ := hC
  cases st with
  | nil => exact nos h
  | cons v0 st =>
    cases v0 with
    | int x =>
      by_cases hc : (j : Nat) < ls.length ∧ pok ls (j : Nat) = true
      · have h1 : (some (Sum.inl (pc + 1, ls.set (j : Nat) (.int x), st, bc, bs, hp)) : Option Act) = some (Sum.inl (pc', ls', st', bc', bs', hp')) := by simp only [act, st1, if_pos hc] at h; exact h
        cases h1
        intro H locs lsr ad cells slots hR z1 z2
        obtain ⟨r1, r2, ⟨r3, r4⟩, r5, r6⟩ := hR
        exact lv_istore_n hx hb hd rfl r5.has (by rw [← r5.1]; exact hc.1) rfl (fun lsr2 hl => hk H locs lsr2 ad cells slots ⟨r1, r2, ⟨ok_tl r3, ok_set trivial r4⟩, r5.st1 hc.2 (Or.inr rfl) hl, r6⟩ z1 z2)
      · simp only [act, st1, if_neg hc] at h
        exact nos h
    | _ => exact nos h
theorem n_istore {j : Nat} (hC : Cx p l R s m meth c k lo D tA) (hd : decode (mB k) pc = .ok ((.istore j), 2)) (h : act k (.istore j) pc ls st bc bs hp = some (.inl (pc', ls', st', bc', bs', hp'))) (hk : Wg p l e R s m args below meth c Q D tA lo k ad0 n0 pc' ls' st' bc' bs' hp') : Wg p l e R s m args below meth c Q D tA lo k ad0 n0 pc ls st bc bs hp := by
  obtain ⟨⟨hx, hb, hown, hml⟩, ⟨hlk, hr, hmn, hxt⟩, hF, hZ, hlo, hrm, htr⟩ := hC
  cases st with
  | nil => exact nos h
  | cons v0 st =>
    cases v0 with
    | int x =>
      by_cases hc : j < ls.length ∧ pok ls j = true
      · have h1 : (some (Sum.inl (pc + 2, ls.set j (.int x), st, bc, bs, hp)) : Option Act) = some (Sum.inl (pc', ls', st', bc', bs', hp')) := by simp only [act, st1, if_pos hc] at h; exact h
        cases h1
        intro H locs lsr ad cells slots hR z1 z2
        obtain ⟨r1, r2, ⟨r3, r4⟩, r5, r6⟩ := hR
        exact lv_istore hx hb hd r5.has (by rw [← r5.1]; exact hc.1) rfl (fun lsr2 hl => hk H locs lsr2 ad cells slots ⟨r1, r2, ⟨ok_tl r3, ok_set trivial r4⟩, r5.st1 hc.2 (Or.inr rfl) hl, r6⟩ z1 z2)
      · simp only [act, st1, if_neg hc] at h
        exact nos h
    | _ => exact nos h
theorem n_astore_n {j : Fin 4} (hC : Cx p l R s m meth c k lo D tA) (hd : decode (mB k) pc = .ok ((.astore_n j), 1)) (h : act k (.astore_n j) pc ls st bc bs hp = some (.inl (pc', ls', st', bc', bs', hp'))) (hk : Wg p l e R s m args below meth c Q D tA lo k ad0 n0 pc' ls' st' bc' bs' hp') : Wg p l e R s m args below meth c Q D tA lo k ad0 n0 pc ls st bc bs hp := by
  obtain ⟨⟨hx, hb, hown, hml⟩, ⟨hlk, hr, hmn, hxt⟩, hF, hZ, hlo, hrm, htr⟩ := hC
  cases st with
  | nil => exact nos h
  | cons v0 st =>
    cases v0 with
    | ref x =>
      by_cases hc : (j : Nat) < ls.length ∧ pok ls (j : Nat) = true
      · have h1 : (some (Sum.inl (pc + 1, ls.set (j : Nat) (.ref x), st, bc, bs, hp)) : Option Act) = some (Sum.inl (pc', ls', st', bc', bs', hp')) := by simp only [act, st1, if_pos hc] at h; exact h
        cases h1
        intro H locs lsr ad cells slots hR z1 z2
        obtain ⟨r1, r2, ⟨r3, r4⟩, r5, r6⟩ := hR
        exact lv_astore_n hx hb hd rfl r5.has (by rw [← r5.1]; exact hc.1) rfl (fun lsr2 hl => hk H locs lsr2 ad cells slots ⟨r1, r2, ⟨ok_tl r3, ok_set (ok_hd r3) r4⟩, r5.st1 hc.2 (Or.inr rfl) hl, r6⟩ z1 z2)
      · simp only [act, st1, if_neg hc] at h
        exact nos h
    | _ => exact nos h
theorem n_astore {j : Nat} (hC : Cx p l R s m meth c k lo D tA) (hd : decode (mB k) pc = .ok ((.astore j), 2)) (h : act k (.astore j) pc ls st bc bs hp = some (.inl (pc', ls', st', bc', bs', hp'))) (hk : Wg p l e R s m args below meth c Q D tA lo k ad0 n0 pc' ls' st' bc' bs' hp') : Wg p l e R s m args below meth c Q D tA lo k ad0 n0 pc ls st bc bs hp := by
  obtain ⟨⟨hx, hb, hown, hml⟩, ⟨hlk, hr, hmn, hxt⟩, hF, hZ, hlo, hrm, htr⟩ := hC
  cases st with
  | nil => exact nos h
  | cons v0 st =>
    cases v0 with
    | ref x =>
      by_cases hc : j < ls.length ∧ pok ls j = true
      · have h1 : (some (Sum.inl (pc + 2, ls.set j (.ref x), st, bc, bs, hp)) : Option Act) = some (Sum.inl (pc', ls', st', bc', bs', hp')) := by simp only [act, st1, if_pos hc] at h; exact h
        cases h1
        intro H locs lsr ad cells slots hR z1 z2
        obtain ⟨r1, r2, ⟨r3, r4⟩, r5, r6⟩ := hR
        exact lv_astore hx hb hd r5.has (by rw [← r5.1]; exact hc.1) rfl (fun lsr2 hl => hk H locs lsr2 ad cells slots ⟨r1, r2, ⟨ok_tl r3, ok_set (ok_hd r3) r4⟩, r5.st1 hc.2 (Or.inr rfl) hl, r6⟩ z1 z2)
      · simp only [act, st1, if_neg hc] at h
        exact nos h
    | _ => exact nos h
theorem n_fstore_n {j : Fin 4} (hC : Cx p l R s m meth c k lo D tA) (hd : decode (mB k) pc = .ok ((.fstore_n j), 1)) (h : act k (.fstore_n j) pc ls st bc bs hp = some (.inl (pc', ls', st', bc', bs', hp'))) (hk : Wg p l e R s m args below meth c Q D tA lo k ad0 n0 pc' ls' st' bc' bs' hp') : Wg p l e R s m args below meth c Q D tA lo k ad0 n0 pc ls st bc bs hp := by
  obtain ⟨⟨hx, hb, hown, hml⟩, ⟨hlk, hr, hmn, hxt⟩, hF, hZ, hlo, hrm, htr⟩ := hC
  cases st with
  | nil => exact nos h
  | cons v0 st =>
    cases v0 with
    | float x =>
      by_cases hc : (j : Nat) < ls.length ∧ pok ls (j : Nat) = true
      · have h1 : (some (Sum.inl (pc + 1, ls.set (j : Nat) (.float x), st, bc, bs, hp)) : Option Act) = some (Sum.inl (pc', ls', st', bc', bs', hp')) := by simp only [act, st1, if_pos hc] at h; exact h
        cases h1
        intro H locs lsr ad cells slots hR z1 z2
        obtain ⟨r1, r2, ⟨r3, r4⟩, r5, r6⟩ := hR
        exact lv_fstore_n hx hb hd rfl r5.has (by rw [← r5.1]; exact hc.1) rfl (fun lsr2 hl => hk H locs lsr2 ad cells slots ⟨r1, r2, ⟨ok_tl r3, ok_set trivial r4⟩, r5.st1 hc.2 (Or.inr rfl) hl, r6⟩ z1 z2)
      · simp only [act, st1, if_neg hc] at h
        exact nos h
    | _ => exact nos h
theorem n_fstore {j : Nat} (hC : Cx p l R s m meth c k lo D tA) (hd : decode (mB k) pc = .ok ((.fstore j), 2)) (h : act k (.fstore j) pc ls st bc bs hp = some (.inl (pc', ls', st', bc', bs', hp'))) (hk : Wg p l e R s m args below meth c Q D tA lo k ad0 n0 pc' ls' st' bc' bs' hp') : Wg p l e R s m args below meth c Q D tA lo k ad0 n0 pc ls st bc bs hp := by
  obtain ⟨⟨hx, hb, hown, hml⟩, ⟨hlk, hr, hmn, hxt⟩, hF, hZ, hlo, hrm, htr⟩ := hC
  cases st with
  | nil => exact nos h
  | cons v0 st =>
    cases v0 with
    | float x =>
      by_cases hc : j < ls.length ∧ pok ls j = true
      · have h1 : (some (Sum.inl (pc + 2, ls.set j (.float x), st, bc, bs, hp)) : Option Act) = some (Sum.inl (pc', ls', st', bc', bs', hp')) := by simp only [act, st1, if_pos hc] at h; exact h
        cases h1
        intro H locs lsr ad cells slots hR z1 z2
        obtain ⟨r1, r2, ⟨r3, r4⟩, r5, r6⟩ := hR
        exact lv_fstore hx hb hd r5.has (by rw [← r5.1]; exact hc.1) rfl (fun lsr2 hl => hk H locs lsr2 ad cells slots ⟨r1, r2, ⟨ok_tl r3, ok_set trivial r4⟩, r5.st1 hc.2 (Or.inr rfl) hl, r6⟩ z1 z2)
      · simp only [act, st1, if_neg hc] at h
        exact nos h
    | _ => exact nos h
theorem n_dstore_n {j : Fin 4} (hC : Cx p l R s m meth c k lo D tA) (hd : decode (mB k) pc = .ok ((.dstore_n j), 1)) (h : act k (.dstore_n j) pc ls st bc bs hp = some (.inl (pc', ls', st', bc', bs', hp'))) (hk : Wg p l e R s m args below meth c Q D tA lo k ad0 n0 pc' ls' st' bc' bs' hp') : Wg p l e R s m args below meth c Q D tA lo k ad0 n0 pc ls st bc bs hp := by
  obtain ⟨⟨hx, hb, hown, hml⟩, ⟨hlk, hr, hmn, hxt⟩, hF, hZ, hlo, hrm, htr⟩ := hC
  cases st with
  | nil => exact nos h
  | cons v0 st =>
    cases v0 with
    | double x =>
      by_cases hc : (j : Nat) + 1 < ls.length ∧ pok ls (j : Nat) = true
      · have h1 : (some (Sum.inl (pc + 1, (ls.set (j : Nat) (.double x)).set ((j : Nat) + 1) .null, st, bc, bs, hp)) : Option Act) = some (Sum.inl (pc', ls', st', bc', bs', hp')) := by simp only [act, st2, if_pos hc] at h; exact h
        cases h1
        intro H locs lsr ad cells slots hR z1 z2
        obtain ⟨r1, r2, ⟨r3, r4⟩, r5, r6⟩ := hR
        exact lv_dstore_n hx hb hd rfl r5.has (by rw [← r5.1]; exact hc.1) rfl (fun lsr2 hl => hk H locs lsr2 ad cells slots ⟨r1, r2, ⟨ok_tl r3, ok_set trivial (ok_set trivial r4)⟩, r5.st2 hc.2 hl, r6⟩ z1 z2)
      · simp only [act, st2, if_neg hc] at h
        exact nos h
    | _ => exact nos h
theorem n_dstore {j : Nat} (hC : Cx p l R s m meth c k lo D tA) (hd : decode (mB k) pc = .ok ((.dstore j), 2)) (h : act k (.dstore j) pc ls st bc bs hp = some (.inl (pc', ls', st', bc', bs', hp'))) (hk : Wg p l e R s m args below meth c Q D tA lo k ad0 n0 pc' ls' st' bc' bs' hp') : Wg p l e R s m args below meth c Q D tA lo k ad0 n0 pc ls st bc bs hp := by
  obtain ⟨⟨hx, hb, hown, hml⟩, ⟨hlk, hr, hmn, hxt⟩, hF, hZ, hlo, hrm, htr⟩ := hC
  cases st with
  | nil => exact nos h
  | cons v0 st =>
    cases v0 with
    | double x =>
      by_cases hc : j + 1 < ls.length ∧ pok ls j = true
      · have h1 : (some (Sum.inl (pc + 2, (ls.set j (.double x)).set (j + 1) .null, st, bc, bs, hp)) : Option Act) = some (Sum.inl (pc', ls', st', bc', bs', hp')) := by simp only [act, st2, if_pos hc] at h; exact h
        cases h1
        intro H locs lsr ad cells slots hR z1 z2
        obtain ⟨r1, r2, ⟨r3, r4⟩, r5, r6⟩ := hR
        exact lv_dstore hx hb hd r5.has (by rw [← r5.1]; exact hc.1) rfl (fun lsr2 hl => hk H locs lsr2 ad cells slots ⟨r1, r2, ⟨ok_tl r3, ok_set trivial (ok_set trivial r4)⟩, r5.st2 hc.2 hl, r6⟩ z1 z2)
      · simp only [act, st2, if_neg hc] at h
        exact nos h
    | _ => exact nos h
theorem n_lstore_n {j : Fin 4} (hC : Cx p l R s m meth c k lo D tA) (hd : decode (mB k) pc = .ok ((.lstore_n j), 1)) (h : act k (.lstore_n j) pc ls st bc bs hp = some (.inl (pc', ls', st', bc', bs', hp'))) (hk : Wg p l e R s m args below meth c Q D tA lo k ad0 n0 pc' ls' st' bc' bs' hp') : Wg p l e R s m args below meth c Q D tA lo k ad0 n0 pc ls st bc bs hp := by
  obtain ⟨⟨hx, hb, hown, hml⟩, ⟨hlk, hr, hmn, hxt⟩, hF, hZ, hlo, hrm, htr⟩ := hC
  cases st with
  | nil => exact nos h
  | cons v0 st =>
    cases v0 with
    | long x =>
      by_cases hc : (j : Nat) + 1 < ls.length ∧ pok ls (j : Nat) = true
      · have h1 : (some (Sum.inl (pc + 1, (ls.set (j : Nat) (.long x)).set ((j : Nat) + 1) .null, st, bc, bs, hp)) : Option Act) = some (Sum.inl (pc', ls', st', bc', bs', hp')) := by simp only [act, st2, if_pos hc] at h; exact h
        cases h1
        intro H locs lsr ad cells slots hR z1 z2
        obtain ⟨r1, r2, ⟨r3, r4⟩, r5, r6⟩ := hR
        exact lv_lstore_n hx hb hd rfl r5.has (by rw [← r5.1]; exact hc.1) rfl (fun lsr2 hl => hk H locs lsr2 ad cells slots ⟨r1, r2, ⟨ok_tl r3, ok_set trivial (ok_set trivial r4)⟩, r5.st2 hc.2 hl, r6⟩ z1 z2)
      · simp only [act, st2, if_neg hc] at h
        exact nos h
    | _ => exact nos h
theorem n_iinc {j : Nat} {n : Int} (hC : Cx p l R s m meth c k lo D tA) (hd : decode (mB k) pc = .ok ((.iinc j n), 3)) (h : act k (.iinc j n) pc ls st bc bs hp = some (.inl (pc', ls', st', bc', bs', hp'))) (hk : Wg p l e R s m args below meth c Q D tA lo k ad0 n0 pc' ls' st' bc' bs' hp') : Wg p l e R s m args below meth c Q D tA lo k ad0 n0 pc ls st bc bs hp := by
  obtain ⟨⟨hx, hb, hown, hml⟩, ⟨hlk, hr, hmn, hxt⟩, hF, hZ, hlo, hrm, htr⟩ := hC
  cases hl : ls[j]? with
  | none => simp only [act, hl] at h; exact nos h
  | some v =>
    cases v with
    | int x =>
      by_cases hc : j < ls.length ∧ pok ls j = true
      · have h1 : (some (Sum.inl (pc + 3, ls.set j (.int (x + Int32.ofInt n)), st, bc, bs, hp)) : Option Act) = some (Sum.inl (pc', ls', st', bc', bs', hp')) := by simp only [act, hl, st1, if_pos hc] at h; exact h
        cases h1
        intro H locs lsr ad cells slots hR z1 z2
        obtain ⟨r1, r2, ⟨r3, r4⟩, r5, r6⟩ := hR
        obtain ⟨q, hq⟩ := List.getElem?_of_mem (mem_ascL (ad := ad) hl (fun q => by cases q))
        exact lv_iinc hx hb hd r5.has hq rfl (by rw [← r5.1]; exact hc.1) rfl (fun lsr2 hl => hk H locs lsr2 ad cells slots ⟨r1, r2, ⟨r3, ok_set trivial r4⟩, r5.st1 hc.2 (Or.inr rfl) hl, r6⟩ z1 z2)
      · simp only [act, hl, st1, if_neg hc] at h
        exact nos h
    | _ => simp only [act, hl] at h; exact nos h
theorem n_dup (hC : Cx p l R s m meth c k lo D tA) (hd : decode (mB k) pc = .ok (.dup, 1)) (h : act k .dup pc ls st bc bs hp = some (.inl (pc', ls', st', bc', bs', hp'))) (hk : Wg p l e R s m args below meth c Q D tA lo k ad0 n0 pc' ls' st' bc' bs' hp') : Wg p l e R s m args below meth c Q D tA lo k ad0 n0 pc ls st bc bs hp := by
  obtain ⟨⟨hx, hb, hown, hml⟩, ⟨hlk, hr, hmn, hxt⟩, hF, hZ, hlo, hrm, htr⟩ := hC
  cases st with
  | nil => exact nos h
  | cons v st =>
    by_cases hc : v.category = 1
    · have h1 : (some (Sum.inl (pc + 1, ls, v :: v :: st, bc, bs, hp)) : Option Act) = some (Sum.inl (pc', ls', st', bc', bs', hp')) := by simp only [act, if_pos hc] at h; exact h
      cases h1
      exact hk.go (fun r _ => ok_cs (ok_hd r) r) (fun H locs lsr ad cells slots hL kk => lv_dup hx hb hd (by rw [tr_cat]; exact hc) kk)
    · simp only [act, if_neg hc] at h
      exact nos h
theorem n_pop (hC : Cx p l R s m meth c k lo D tA) (hd : decode (mB k) pc = .ok (.pop, 1)) (h : act k .pop pc ls st bc bs hp = some (.inl (pc', ls', st', bc', bs', hp'))) (hk : Wg p l e R s m args below meth c Q D tA lo k ad0 n0 pc' ls' st' bc' bs' hp') : Wg p l e R s m args below meth c Q D tA lo k ad0 n0 pc ls st bc bs hp := by
  obtain ⟨⟨hx, hb, hown, hml⟩, ⟨hlk, hr, hmn, hxt⟩, hF, hZ, hlo, hrm, htr⟩ := hC
  cases st with
  | nil => exact nos h
  | cons v st =>
    by_cases hc : v.category = 1
    · have h1 : (some (Sum.inl (pc + 1, ls, st, bc, bs, hp)) : Option Act) = some (Sum.inl (pc', ls', st', bc', bs', hp')) := by simp only [act, if_pos hc] at h; exact h
      cases h1
      exact hk.go (fun r _ => ok_tl r) (fun H locs lsr ad cells slots hL kk => lv_pop hx hb hd (by rw [tr_cat]; exact hc) kk)
    · simp only [act, if_neg hc] at h
      exact nos h
theorem n_dup2 (hC : Cx p l R s m meth c k lo D tA) (hd : decode (mB k) pc = .ok (.dup2, 1)) (h : act k .dup2 pc ls st bc bs hp = some (.inl (pc', ls', st', bc', bs', hp'))) (hk : Wg p l e R s m args below meth c Q D tA lo k ad0 n0 pc' ls' st' bc' bs' hp') : Wg p l e R s m args below meth c Q D tA lo k ad0 n0 pc ls st bc bs hp := by
  obtain ⟨⟨hx, hb, hown, hml⟩, ⟨hlk, hr, hmn, hxt⟩, hF, hZ, hlo, hrm, htr⟩ := hC
  cases st with
  | nil => exact nos h
  | cons v st =>
    cases st with
    | nil => exact nos h
    | cons w st =>
      by_cases hc : v.category = 1 ∧ w.category = 1
      · have h1 : (some (Sum.inl (pc + 1, ls, v :: w :: v :: w :: st, bc, bs, hp)) : Option Act) = some (Sum.inl (pc', ls', st', bc', bs', hp')) := by simp only [act, if_pos hc] at h; exact h
        cases h1
        exact hk.go (fun r _ => ok_cs (ok_hd r) (ok_cs (ok_hd (ok_tl r)) r)) (fun H locs lsr ad cells slots hL kk => lv_dup2_11 hx hb hd (by rw [tr_cat]; exact hc.1) (by rw [tr_cat]; exact hc.2) kk)
      · simp only [act, if_neg hc] at h
        exact nos h
theorem n_goto {off : Int} (hC : Cx p l R s m meth c k lo D tA) (hd : decode (mB k) pc = .ok ((.goto off), 3)) (h : act k (.goto off) pc ls st bc bs hp = some (.inl (pc', ls', st', bc', bs', hp'))) (hk : Wg p l e R s m args below meth c Q D tA lo k ad0 n0 pc' ls' st' bc' bs' hp') : Wg p l e R s m args below meth c Q D tA lo k ad0 n0 pc ls st bc bs hp := by
  obtain ⟨⟨hx, hb, hown, hml⟩, ⟨hlk, hr, hmn, hxt⟩, hF, hZ, hlo, hrm, htr⟩ := hC
  cases hj : jmp pc off with
  | none => simp only [act, hj] at h; exact nos h
  | some t =>
    have h1 : (some (Sum.inl (t, ls, st, bc, bs, hp)) : Option Act) = some (Sum.inl (pc', ls', st', bc', bs', hp')) := by simp only [act, hj] at h; exact h
    cases h1
    exact hk.go (fun r _ => r) (fun H locs lsr ad cells slots hL kk => lv_goto hx hb hd (jmp_spec hj) kk)
theorem n_ifCond_eq {off : Int} (hC : Cx p l R s m meth c k lo D tA) (hd : decode (mB k) pc = .ok ((.ifCond .eq off), 3)) (h : act k (.ifCond .eq off) pc ls st bc bs hp = some (.inl (pc', ls', st', bc', bs', hp'))) (hk : Wg p l e R s m args below meth c Q D tA lo k ad0 n0 pc' ls' st' bc' bs' hp') : Wg p l e R s m args below meth c Q D tA lo k ad0 n0 pc ls st bc bs hp := by
  obtain ⟨⟨hx, hb, hown, hml⟩, ⟨hlk, hr, hmn, hxt⟩, hF, hZ, hlo, hrm, htr⟩ := hC
  cases st with
  | nil => exact nos h
  | cons v0 st =>
    cases v0 with
    | int x =>
      cases hj : jmp pc off with
      | none => simp only [act, br, hj] at h; exact nos h
      | some t =>
        by_cases hc : x = 0
        · have h1 : (some (Sum.inl (t, ls, st, bc, bs, hp)) : Option Act) = some (Sum.inl (pc', ls', st', bc', bs', hp')) := by simp only [act, br, hj, icndB, decide_eq_true_eq, if_pos hc] at h; exact h
          cases h1
          exact hk.go (fun r _ => ok_tl r) (fun H locs lsr ad cells slots hL kk => lv_if_eq hx hb hd (jmp_spec hj) (fun _ => kk) (fun hn => absurd hc hn))
        · have h1 : (some (Sum.inl (pc + 3, ls, st, bc, bs, hp)) : Option Act) = some (Sum.inl (pc', ls', st', bc', bs', hp')) := by simp only [act, br, hj, icndB, decide_eq_true_eq, if_neg hc] at h; exact h
          cases h1
          exact hk.go (fun r _ => ok_tl r) (fun H locs lsr ad cells slots hL kk => lv_if_eq hx hb hd (jmp_spec hj) (fun hn => absurd hn hc) (fun _ => kk))
    | _ => exact nos h
theorem n_ifCond_ne {off : Int} (hC : Cx p l R s m meth c k lo D tA) (hd : decode (mB k) pc = .ok ((.ifCond .ne off), 3)) (h : act k (.ifCond .ne off) pc ls st bc bs hp = some (.inl (pc', ls', st', bc', bs', hp'))) (hk : Wg p l e R s m args below meth c Q D tA lo k ad0 n0 pc' ls' st' bc' bs' hp') : Wg p l e R s m args below meth c Q D tA lo k ad0 n0 pc ls st bc bs hp := by
  obtain ⟨⟨hx, hb, hown, hml⟩, ⟨hlk, hr, hmn, hxt⟩, hF, hZ, hlo, hrm, htr⟩ := hC
  cases st with
  | nil => exact nos h
  | cons v0 st =>
    cases v0 with
    | int x =>
      cases hj : jmp pc off with
      | none => simp only [act, br, hj] at h; exact nos h
      | some t =>
        by_cases hc : ¬ x = 0
        · have h1 : (some (Sum.inl (t, ls, st, bc, bs, hp)) : Option Act) = some (Sum.inl (pc', ls', st', bc', bs', hp')) := by simp only [act, br, hj, icndB, decide_eq_true_eq, if_pos hc] at h; exact h
          cases h1
          exact hk.go (fun r _ => ok_tl r) (fun H locs lsr ad cells slots hL kk => lv_if_ne hx hb hd (jmp_spec hj) (fun _ => kk) (fun hn => absurd hn hc))
        · have h1 : (some (Sum.inl (pc + 3, ls, st, bc, bs, hp)) : Option Act) = some (Sum.inl (pc', ls', st', bc', bs', hp')) := by simp only [act, br, hj, icndB, decide_eq_true_eq, if_neg hc] at h; exact h
          cases h1
          exact hk.go (fun r _ => ok_tl r) (fun H locs lsr ad cells slots hL kk => lv_if_ne hx hb hd (jmp_spec hj) (fun hn => absurd hn hc) (fun _ => kk))
    | _ => exact nos h
theorem n_ifCond_lt {off : Int} (hC : Cx p l R s m meth c k lo D tA) (hd : decode (mB k) pc = .ok ((.ifCond .lt off), 3)) (h : act k (.ifCond .lt off) pc ls st bc bs hp = some (.inl (pc', ls', st', bc', bs', hp'))) (hk : Wg p l e R s m args below meth c Q D tA lo k ad0 n0 pc' ls' st' bc' bs' hp') : Wg p l e R s m args below meth c Q D tA lo k ad0 n0 pc ls st bc bs hp := by
  obtain ⟨⟨hx, hb, hown, hml⟩, ⟨hlk, hr, hmn, hxt⟩, hF, hZ, hlo, hrm, htr⟩ := hC
  cases st with
  | nil => exact nos h
  | cons v0 st =>
    cases v0 with
    | int x =>
      cases hj : jmp pc off with
      | none => simp only [act, br, hj] at h; exact nos h
      | some t =>
        by_cases hc : x < 0
        · have h1 : (some (Sum.inl (t, ls, st, bc, bs, hp)) : Option Act) = some (Sum.inl (pc', ls', st', bc', bs', hp')) := by simp only [act, br, hj, icndB, decide_eq_true_eq, if_pos hc] at h; exact h
          cases h1
          exact hk.go (fun r _ => ok_tl r) (fun H locs lsr ad cells slots hL kk => lv_if_lt hx hb hd (jmp_spec hj) (fun _ => kk) (fun hn => absurd hc hn))
        · have h1 : (some (Sum.inl (pc + 3, ls, st, bc, bs, hp)) : Option Act) = some (Sum.inl (pc', ls', st', bc', bs', hp')) := by simp only [act, br, hj, icndB, decide_eq_true_eq, if_neg hc] at h; exact h
          cases h1
          exact hk.go (fun r _ => ok_tl r) (fun H locs lsr ad cells slots hL kk => lv_if_lt hx hb hd (jmp_spec hj) (fun hn => absurd hn hc) (fun _ => kk))
    | _ => exact nos h
theorem n_ifCond_ge {off : Int} (hC : Cx p l R s m meth c k lo D tA) (hd : decode (mB k) pc = .ok ((.ifCond .ge off), 3)) (h : act k (.ifCond .ge off) pc ls st bc bs hp = some (.inl (pc', ls', st', bc', bs', hp'))) (hk : Wg p l e R s m args below meth c Q D tA lo k ad0 n0 pc' ls' st' bc' bs' hp') : Wg p l e R s m args below meth c Q D tA lo k ad0 n0 pc ls st bc bs hp := by
  obtain ⟨⟨hx, hb, hown, hml⟩, ⟨hlk, hr, hmn, hxt⟩, hF, hZ, hlo, hrm, htr⟩ := hC
  cases st with
  | nil => exact nos h
  | cons v0 st =>
    cases v0 with
    | int x =>
      cases hj : jmp pc off with
      | none => simp only [act, br, hj] at h; exact nos h
      | some t =>
        by_cases hc : 0 ≤ x
        · have h1 : (some (Sum.inl (t, ls, st, bc, bs, hp)) : Option Act) = some (Sum.inl (pc', ls', st', bc', bs', hp')) := by simp only [act, br, hj, icndB, decide_eq_true_eq, if_pos hc] at h; exact h
          cases h1
          exact hk.go (fun r _ => ok_tl r) (fun H locs lsr ad cells slots hL kk => lv_if_ge hx hb hd (jmp_spec hj) (fun _ => kk) (fun hn => absurd hc hn))
        · have h1 : (some (Sum.inl (pc + 3, ls, st, bc, bs, hp)) : Option Act) = some (Sum.inl (pc', ls', st', bc', bs', hp')) := by simp only [act, br, hj, icndB, decide_eq_true_eq, if_neg hc] at h; exact h
          cases h1
          exact hk.go (fun r _ => ok_tl r) (fun H locs lsr ad cells slots hL kk => lv_if_ge hx hb hd (jmp_spec hj) (fun hn => absurd hn hc) (fun _ => kk))
    | _ => exact nos h
theorem n_ifCond_gt {off : Int} (hC : Cx p l R s m meth c k lo D tA) (hd : decode (mB k) pc = .ok ((.ifCond .gt off), 3)) (h : act k (.ifCond .gt off) pc ls st bc bs hp = some (.inl (pc', ls', st', bc', bs', hp'))) (hk : Wg p l e R s m args below meth c Q D tA lo k ad0 n0 pc' ls' st' bc' bs' hp') : Wg p l e R s m args below meth c Q D tA lo k ad0 n0 pc ls st bc bs hp := by
  obtain ⟨⟨hx, hb, hown, hml⟩, ⟨hlk, hr, hmn, hxt⟩, hF, hZ, hlo, hrm, htr⟩ := hC
  cases st with
  | nil => exact nos h
  | cons v0 st =>
    cases v0 with
    | int x =>
      cases hj : jmp pc off with
      | none => simp only [act, br, hj] at h; exact nos h
      | some t =>
        by_cases hc : 0 < x
        · have h1 : (some (Sum.inl (t, ls, st, bc, bs, hp)) : Option Act) = some (Sum.inl (pc', ls', st', bc', bs', hp')) := by simp only [act, br, hj, icndB, decide_eq_true_eq, if_pos hc] at h; exact h
          cases h1
          exact hk.go (fun r _ => ok_tl r) (fun H locs lsr ad cells slots hL kk => lv_if_gt hx hb hd (jmp_spec hj) (fun _ => kk) (fun hn => absurd hc hn))
        · have h1 : (some (Sum.inl (pc + 3, ls, st, bc, bs, hp)) : Option Act) = some (Sum.inl (pc', ls', st', bc', bs', hp')) := by simp only [act, br, hj, icndB, decide_eq_true_eq, if_neg hc] at h; exact h
          cases h1
          exact hk.go (fun r _ => ok_tl r) (fun H locs lsr ad cells slots hL kk => lv_if_gt hx hb hd (jmp_spec hj) (fun hn => absurd hn hc) (fun _ => kk))
    | _ => exact nos h
theorem n_ifCond_le {off : Int} (hC : Cx p l R s m meth c k lo D tA) (hd : decode (mB k) pc = .ok ((.ifCond .le off), 3)) (h : act k (.ifCond .le off) pc ls st bc bs hp = some (.inl (pc', ls', st', bc', bs', hp'))) (hk : Wg p l e R s m args below meth c Q D tA lo k ad0 n0 pc' ls' st' bc' bs' hp') : Wg p l e R s m args below meth c Q D tA lo k ad0 n0 pc ls st bc bs hp := by
  obtain ⟨⟨hx, hb, hown, hml⟩, ⟨hlk, hr, hmn, hxt⟩, hF, hZ, hlo, hrm, htr⟩ := hC
  cases st with
  | nil => exact nos h
  | cons v0 st =>
    cases v0 with
    | int x =>
      cases hj : jmp pc off with
      | none => simp only [act, br, hj] at h; exact nos h
      | some t =>
        by_cases hc : x ≤ 0
        · have h1 : (some (Sum.inl (t, ls, st, bc, bs, hp)) : Option Act) = some (Sum.inl (pc', ls', st', bc', bs', hp')) := by simp only [act, br, hj, icndB, decide_eq_true_eq, if_pos hc] at h; exact h
          cases h1
          exact hk.go (fun r _ => ok_tl r) (fun H locs lsr ad cells slots hL kk => lv_if_le hx hb hd (jmp_spec hj) (fun _ => kk) (fun hn => absurd hc hn))
        · have h1 : (some (Sum.inl (pc + 3, ls, st, bc, bs, hp)) : Option Act) = some (Sum.inl (pc', ls', st', bc', bs', hp')) := by simp only [act, br, hj, icndB, decide_eq_true_eq, if_neg hc] at h; exact h
          cases h1
          exact hk.go (fun r _ => ok_tl r) (fun H locs lsr ad cells slots hL kk => lv_if_le hx hb hd (jmp_spec hj) (fun hn => absurd hn hc) (fun _ => kk))
    | _ => exact nos h
theorem n_if_icmp_eq {off : Int} (hC : Cx p l R s m meth c k lo D tA) (hd : decode (mB k) pc = .ok ((.if_icmp .eq off), 3)) (h : act k (.if_icmp .eq off) pc ls st bc bs hp = some (.inl (pc', ls', st', bc', bs', hp'))) (hk : Wg p l e R s m args below meth c Q D tA lo k ad0 n0 pc' ls' st' bc' bs' hp') : Wg p l e R s m args below meth c Q D tA lo k ad0 n0 pc ls st bc bs hp := by
  obtain ⟨⟨hx, hb, hown, hml⟩, ⟨hlk, hr, hmn, hxt⟩, hF, hZ, hlo, hrm, htr⟩ := hC
  cases st with
  | nil => exact nos h
  | cons v0 st =>
    cases v0 with
    | int y =>
      cases st with
      | nil => exact nos h
      | cons v1 st =>
        cases v1 with
        | int x =>
          cases hj : jmp pc off with
          | none => simp only [act, br, hj] at h; exact nos h
          | some t =>
            by_cases hc : x = y
            · have h1 : (some (Sum.inl (t, ls, st, bc, bs, hp)) : Option Act) = some (Sum.inl (pc', ls', st', bc', bs', hp')) := by simp only [act, br, hj, icndB, decide_eq_true_eq, if_pos hc] at h; exact h
              cases h1
              exact hk.go (fun r _ => ok_tl (ok_tl r)) (fun H locs lsr ad cells slots hL kk => lv_icmp_eq hx hb hd (jmp_spec hj) (fun _ => kk) (fun hn => absurd hc hn))
            · have h1 : (some (Sum.inl (pc + 3, ls, st, bc, bs, hp)) : Option Act) = some (Sum.inl (pc', ls', st', bc', bs', hp')) := by simp only [act, br, hj, icndB, decide_eq_true_eq, if_neg hc] at h; exact h
              cases h1
              exact hk.go (fun r _ => ok_tl (ok_tl r)) (fun H locs lsr ad cells slots hL kk => lv_icmp_eq hx hb hd (jmp_spec hj) (fun hn => absurd hn hc) (fun _ => kk))
        | _ => exact nos h
    | _ => exact nos h
theorem n_if_icmp_ne {off : Int} (hC : Cx p l R s m meth c k lo D tA) (hd : decode (mB k) pc = .ok ((.if_icmp .ne off), 3)) (h : act k (.if_icmp .ne off) pc ls st bc bs hp = some (.inl (pc', ls', st', bc', bs', hp'))) (hk : Wg p l e R s m args below meth c Q D tA lo k ad0 n0 pc' ls' st' bc' bs' hp') : Wg p l e R s m args below meth c Q D tA lo k ad0 n0 pc ls st bc bs hp := by
  obtain ⟨⟨hx, hb, hown, hml⟩, ⟨hlk, hr, hmn, hxt⟩, hF, hZ, hlo, hrm, htr⟩ := hC
  cases st with
  | nil => exact nos h
  | cons v0 st =>
    cases v0 with
    | int y =>
      cases st with
      | nil => exact nos h
      | cons v1 st =>
        cases v1 with
        | int x =>
          cases hj : jmp pc off with
          | none => simp only [act, br, hj] at h; exact nos h
          | some t =>
            by_cases hc : ¬ x = y
            · have h1 : (some (Sum.inl (t, ls, st, bc, bs, hp)) : Option Act) = some (Sum.inl (pc', ls', st', bc', bs', hp')) := by simp only [act, br, hj, icndB, decide_eq_true_eq, if_pos hc] at h; exact h
              cases h1
              exact hk.go (fun r _ => ok_tl (ok_tl r)) (fun H locs lsr ad cells slots hL kk => lv_icmp_ne hx hb hd (jmp_spec hj) (fun _ => kk) (fun hn => absurd hn hc))
            · have h1 : (some (Sum.inl (pc + 3, ls, st, bc, bs, hp)) : Option Act) = some (Sum.inl (pc', ls', st', bc', bs', hp')) := by simp only [act, br, hj, icndB, decide_eq_true_eq, if_neg hc] at h; exact h
              cases h1
              exact hk.go (fun r _ => ok_tl (ok_tl r)) (fun H locs lsr ad cells slots hL kk => lv_icmp_ne hx hb hd (jmp_spec hj) (fun hn => absurd hn hc) (fun _ => kk))
        | _ => exact nos h
    | _ => exact nos h
theorem n_if_icmp_lt {off : Int} (hC : Cx p l R s m meth c k lo D tA) (hd : decode (mB k) pc = .ok ((.if_icmp .lt off), 3)) (h : act k (.if_icmp .lt off) pc ls st bc bs hp = some (.inl (pc', ls', st', bc', bs', hp'))) (hk : Wg p l e R s m args below meth c Q D tA lo k ad0 n0 pc' ls' st' bc' bs' hp') : Wg p l e R s m args below meth c Q D tA lo k ad0 n0 pc ls st bc bs hp := by
  obtain ⟨⟨hx, hb, hown, hml⟩, ⟨hlk, hr, hmn, hxt⟩, hF, hZ, hlo, hrm, htr⟩ := hC
  cases st with
  | nil => exact nos h
  | cons v0 st =>
    cases v0 with
    | int y =>
      cases st with
      | nil => exact nos h
      | cons v1 st =>
        cases v1 with
        | int x =>
          cases hj : jmp pc off with
          | none => simp only [act, br, hj] at h; exact nos h
          | some t =>
            by_cases hc : x < y
            · have h1 : (some (Sum.inl (t, ls, st, bc, bs, hp)) : Option Act) = some (Sum.inl (pc', ls', st', bc', bs', hp')) := by simp only [act, br, hj, icndB, decide_eq_true_eq, if_pos hc] at h; exact h
              cases h1
              exact hk.go (fun r _ => ok_tl (ok_tl r)) (fun H locs lsr ad cells slots hL kk => lv_icmp_lt hx hb hd (jmp_spec hj) (fun _ => kk) (fun hn => absurd hc hn))
            · have h1 : (some (Sum.inl (pc + 3, ls, st, bc, bs, hp)) : Option Act) = some (Sum.inl (pc', ls', st', bc', bs', hp')) := by simp only [act, br, hj, icndB, decide_eq_true_eq, if_neg hc] at h; exact h
              cases h1
              exact hk.go (fun r _ => ok_tl (ok_tl r)) (fun H locs lsr ad cells slots hL kk => lv_icmp_lt hx hb hd (jmp_spec hj) (fun hn => absurd hn hc) (fun _ => kk))
        | _ => exact nos h
    | _ => exact nos h
theorem n_if_icmp_ge {off : Int} (hC : Cx p l R s m meth c k lo D tA) (hd : decode (mB k) pc = .ok ((.if_icmp .ge off), 3)) (h : act k (.if_icmp .ge off) pc ls st bc bs hp = some (.inl (pc', ls', st', bc', bs', hp'))) (hk : Wg p l e R s m args below meth c Q D tA lo k ad0 n0 pc' ls' st' bc' bs' hp') : Wg p l e R s m args below meth c Q D tA lo k ad0 n0 pc ls st bc bs hp := by
  obtain ⟨⟨hx, hb, hown, hml⟩, ⟨hlk, hr, hmn, hxt⟩, hF, hZ, hlo, hrm, htr⟩ := hC
  cases st with
  | nil => exact nos h
  | cons v0 st =>
    cases v0 with
    | int y =>
      cases st with
      | nil => exact nos h
      | cons v1 st =>
        cases v1 with
        | int x =>
          cases hj : jmp pc off with
          | none => simp only [act, br, hj] at h; exact nos h
          | some t =>
            by_cases hc : y ≤ x
            · have h1 : (some (Sum.inl (t, ls, st, bc, bs, hp)) : Option Act) = some (Sum.inl (pc', ls', st', bc', bs', hp')) := by simp only [act, br, hj, icndB, decide_eq_true_eq, if_pos hc] at h; exact h
              cases h1
              exact hk.go (fun r _ => ok_tl (ok_tl r)) (fun H locs lsr ad cells slots hL kk => lv_icmp_ge hx hb hd (jmp_spec hj) (fun _ => kk) (fun hn => absurd hc hn))
            · have h1 : (some (Sum.inl (pc + 3, ls, st, bc, bs, hp)) : Option Act) = some (Sum.inl (pc', ls', st', bc', bs', hp')) := by simp only [act, br, hj, icndB, decide_eq_true_eq, if_neg hc] at h; exact h
              cases h1
              exact hk.go (fun r _ => ok_tl (ok_tl r)) (fun H locs lsr ad cells slots hL kk => lv_icmp_ge hx hb hd (jmp_spec hj) (fun hn => absurd hn hc) (fun _ => kk))
        | _ => exact nos h
    | _ => exact nos h
theorem n_if_icmp_gt {off : Int} (hC : Cx p l R s m meth c k lo D tA) (hd : decode (mB k) pc = .ok ((.if_icmp .gt off), 3)) (h : act k (.if_icmp .gt off) pc ls st bc bs hp = some (.inl (pc', ls', st', bc', bs', hp'))) (hk : Wg p l e R s m args below meth c Q D tA lo k ad0 n0 pc' ls' st' bc' bs' hp') : Wg p l e R s m args below meth c Q D tA lo k ad0 n0 pc ls st bc bs hp := by
  obtain ⟨⟨hx, hb, hown, hml⟩, ⟨hlk, hr, hmn, hxt⟩, hF, hZ, hlo, hrm, htr⟩ := hC
  cases st with
  | nil => exact nos h
  | cons v0 st =>
    cases v0 with
    | int y =>
      cases st with
      | nil => exact nos h
      | cons v1 st =>
        cases v1 with
        | int x =>
          cases hj : jmp pc off with
          | none => simp only [act, br, hj] at h; exact nos h
          | some t =>
            by_cases hc : y < x
            · have h1 : (some (Sum.inl (t, ls, st, bc, bs, hp)) : Option Act) = some (Sum.inl (pc', ls', st', bc', bs', hp')) := by simp only [act, br, hj, icndB, decide_eq_true_eq, if_pos hc] at h; exact h
              cases h1
              exact hk.go (fun r _ => ok_tl (ok_tl r)) (fun H locs lsr ad cells slots hL kk => lv_icmp_gt hx hb hd (jmp_spec hj) (fun _ => kk) (fun hn => absurd hc hn))
            · have h1 : (some (Sum.inl (pc + 3, ls, st, bc, bs, hp)) : Option Act) = some (Sum.inl (pc', ls', st', bc', bs', hp')) := by simp only [act, br, hj, icndB, decide_eq_true_eq, if_neg hc] at h; exact h
              cases h1
              exact hk.go (fun r _ => ok_tl (ok_tl r)) (fun H locs lsr ad cells slots hL kk => lv_icmp_gt hx hb hd (jmp_spec hj) (fun hn => absurd hn hc) (fun _ => kk))
        | _ => exact nos h
    | _ => exact nos h
theorem n_if_icmp_le {off : Int} (hC : Cx p l R s m meth c k lo D tA) (hd : decode (mB k) pc = .ok ((.if_icmp .le off), 3)) (h : act k (.if_icmp .le off) pc ls st bc bs hp = some (.inl (pc', ls', st', bc', bs', hp'))) (hk : Wg p l e R s m args below meth c Q D tA lo k ad0 n0 pc' ls' st' bc' bs' hp') : Wg p l e R s m args below meth c Q D tA lo k ad0 n0 pc ls st bc bs hp := by
  obtain ⟨⟨hx, hb, hown, hml⟩, ⟨hlk, hr, hmn, hxt⟩, hF, hZ, hlo, hrm, htr⟩ := hC
  cases st with
  | nil => exact nos h
  | cons v0 st =>
    cases v0 with
    | int y =>
      cases st with
      | nil => exact nos h
      | cons v1 st =>
        cases v1 with
        | int x =>
          cases hj : jmp pc off with
          | none => simp only [act, br, hj] at h; exact nos h
          | some t =>
            by_cases hc : x ≤ y
            · have h1 : (some (Sum.inl (t, ls, st, bc, bs, hp)) : Option Act) = some (Sum.inl (pc', ls', st', bc', bs', hp')) := by simp only [act, br, hj, icndB, decide_eq_true_eq, if_pos hc] at h; exact h
              cases h1
              exact hk.go (fun r _ => ok_tl (ok_tl r)) (fun H locs lsr ad cells slots hL kk => lv_icmp_le hx hb hd (jmp_spec hj) (fun _ => kk) (fun hn => absurd hc hn))
            · have h1 : (some (Sum.inl (pc + 3, ls, st, bc, bs, hp)) : Option Act) = some (Sum.inl (pc', ls', st', bc', bs', hp')) := by simp only [act, br, hj, icndB, decide_eq_true_eq, if_neg hc] at h; exact h
              cases h1
              exact hk.go (fun r _ => ok_tl (ok_tl r)) (fun H locs lsr ad cells slots hL kk => lv_icmp_le hx hb hd (jmp_spec hj) (fun hn => absurd hn hc) (fun _ => kk))
        | _ => exact nos h
    | _ => exact nos h
theorem n_tsw {df lw hg : Int} {offs : Array Int} (hC : Cx p l R s m meth c k lo D tA) (hd : decode (mB k) pc = .ok ((.tableswitch df lw hg offs), 191)) (h : act k (.tableswitch df lw hg offs) pc ls st bc bs hp = some (.inl (pc', ls', st', bc', bs', hp'))) (hk : Wg p l e R s m args below meth c Q D tA lo k ad0 n0 pc' ls' st' bc' bs' hp') : Wg p l e R s m args below meth c Q D tA lo k ad0 n0 pc ls st bc bs hp := by
  obtain ⟨⟨hx, hb, hown, hml⟩, ⟨hlk, hr, hmn, hxt⟩, hF, hZ, hlo, hrm, htr⟩ := hC
  cases st with
  | nil => exact nos h
  | cons v0 st =>
    cases v0 with
    | int x =>
      by_cases hc : x.toInt < lw ∨ hg < x.toInt
      · cases hj : jmp pc df with
        | none => simp only [act, if_pos hc, hj] at h; exact nos h
        | some t =>
          have h1 : (some (Sum.inl (t, ls, st, bc, bs, hp)) : Option Act) = some (Sum.inl (pc', ls', st', bc', bs', hp')) := by simp only [act, if_pos hc, hj] at h; exact h
          cases h1
          exact hk.go (fun r _ => ok_tl r) (fun H locs lsr ad cells slots hL kk => lv_tableOut hx hb hd hc (jmp_spec hj) kk)
      · cases ho : offs[(x.toInt - lw).toNat]? with
        | none => simp only [act, if_neg hc, ho] at h; exact nos h
        | some off =>
          cases hj : jmp pc off with
          | none => simp only [act, if_neg hc, ho, hj] at h; exact nos h
          | some t =>
            have h1 : (some (Sum.inl (t, ls, st, bc, bs, hp)) : Option Act) = some (Sum.inl (pc', ls', st', bc', bs', hp')) := by simp only [act, if_neg hc, ho, hj] at h; exact h
            cases h1
            exact hk.go (fun r _ => ok_tl r) (fun H locs lsr ad cells slots hL kk => lv_tableIn hx hb hd (fun q => hc (Or.inl q)) (fun q => hc (Or.inr q)) ho (jmp_spec hj) kk)
    | _ => exact nos h
end STEP
