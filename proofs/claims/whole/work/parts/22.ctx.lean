/-! what holds of the real machine all along a run of this claim -/
def tysOf (tA : Nat → ClassId) : List (ClassId × FieldType) := [(tA 0, .int), (tA 1, .float), (tA 2, .boolean), (tA 3, .long), (tA 4, .double), (tA 5, .object RX5), (tA 6, .object RX1), (tA 7, .object RX3), (tA 8, .object RX0)]
/-- of the tables -/
def SF (D : va_G) (tA : Nat → ClassId) (U : State) : Prop :=
  va_K D vw9 (tysOf tA) U ∧ (∀ w ∈ TW, w.before #[] U = true) ∧ (∀ w ∈ TX, va_Nw w U) ∧ (∀ C ∈ [RX5, RX1, RX3, RX0], va_AO C U) ∧ (∀ q ∈ strT.getD 7 [], ∃ a, vk_R RX7 q.1 q.2 a U) ∧ (∀ e, e < 6 → ∀ e', e' < 6 → e ≠ e' → va_Nc (excN e) (excN e') U) ∧ (∀ q ∈ lw_privs, (Cond.selects q.1.cls q.1 q.1).before #[] U = true)
theorem TW_good {w : Cond} (h : w ∈ TW) : (w.onTables && w.keeps) = true ∨ ∃ ty, w = .arrayClass ty := good_of_word (List.mem_filter.mp h).2
theorem SF.warm {D : va_G} {tA : Nat → ClassId} {s U : State} (hW : s.WarmedH U.vm) (h : SF D tA s) : SF D tA U := by
  obtain ⟨h1, h2, h3, h4, h5, h6, h7⟩ := h
  refine ⟨va_K.moved hW.alike h1, fun w hw => word_at hW (TW_good hw) (h2 w hw), fun w hw => ?_, fun C hC => va_AO.moved hW.alike (h4 C hC), fun q hq => ?_, fun e he e' he' hn => va_Nc.moved hW.alike (h6 e he e' he' hn), fun q hq => word_at hW (Or.inl rfl) (h7 q hq)⟩
  · have hs := (List.mem_filter.mp hw).2
    cases w with
    | declares x => exact va_Nw.warmD hW (h3 _ hw)
    | castable a b => exact va_Nw.warmC hW (h3 _ hw)
    | methodLinkNest a i x b => exact va_Nw.warmM hW (h3 _ hw)
    | _ => exact absurd hs (by simp [spW])
  · obtain ⟨a, ha⟩ := h5 q hq
    exact ⟨a, vk_R.warm hW ha⟩
theorem SF.word {D : va_G} {tA : Nat → ClassId} {s : State} {args : Array Value} (h : SF D tA s) {w : Cond} (hw : w ∈ TW) : w.before args s = true := word_at (State.WarmedH.refl s) (TW_good hw) (h.2.1 w hw)
theorem SF.words {D : va_G} {tA : Nat → ClassId} {s : State} {args : Array Value} (h : SF D tA s) : ∀ w ∈ TW, w.before args s = true := fun _ hw => h.word hw
def stk1 : String × String × String := ("java/lang/Throwable", "UNASSIGNED_STACK", "[Ljava/lang/StackTraceElement;")
/-- of the two statics that a throw reads -/
def ZF (A : Nat → Prop) (U : State) (H : Heap) : Prop := vx_Zq Bundle.tN "UNASSIGNED_STACK" Bundle.steD A U H ∧ vx_Zq Bundle.tN "SUPPRESSED_SENTINEL" Bundle.listD A U H
def loA (lo : Nat) : Nat → Prop := fun q => lo ≤ q
theorem nm_law {k : Nat} (h : (mY k).name = "<init>") : k ≠ 232 := fun e => by
  rw [e] at h
  exact absurd h (by decide)
/-- of the method that runs (of the law itself, 232, neither name nor handlers are known, nor needed) -/
def Cx (p : Program) (l : Launch) (R : Room) (s : State) (m : MethodId) (meth : Method) (c : Code) (k lo : Nat) (D : va_G) (tA : Nat → ClassId) : Prop :=
  (p.tables.exec = Jvm.exec ∧ c.code = mB k ∧ s.vm.findClass (ownN (mO k)) = some m.cls ∧ c.maxLocals = mL k) ∧ (meth.locks = false ∧ meth.sig.returnType = mR k ∧ (k ≠ 232 → meth.name = (mY k).name) ∧ (k ≠ 232 → c.exceptionTable.toList = tableOf (mH k))) ∧
  SF D tA s ∧ ZF (loA lo) s s.heap ∧ lo ≤ s.heap.size ∧ (7 + hgt k ≤ R.frames ∧ 200 + 60 * hgt k ≤ R.locals) ∧ l.stackTraces = false
/-- of the cells, the locals and the stack at a point of it; ad0, n0: the addresses at its start -/
def Rl (s : State) (D : va_G) (tA : Nat → ClassId) (lo k : Nat) (ad0 : Nat → Nat) (n0 : Nat) (ad : Nat → Nat) (hp : Hp) (ls st : List Value) (H : Heap) (locs : List Loc) (lsr : Array Slot) : Prop :=
  (va_P D vw9 (wl ad tA hp) H ∧ va_D (loA lo) (wl ad tA hp) ∧ va_S (loA lo) s.heap H locs) ∧ okH hp ∧ ((∀ v ∈ st, okv hp.1 v) ∧ ∀ v ∈ ls, okv hp.1 v) ∧ LR ad (mL k) ls lsr ∧ ((∀ i, i ≤ n0 → ad i = ad0 i) ∧ n0 ≤ hp.1) ∧
  ∃ (L : Nat) (xs : Nat → Int32), hp.2 0 = .inl (0, L, .inl xs) ∧ va_X (ad 0) L xs s s.heap ∧ ad 0 < lo
/-- from every point of the real machine that stands so, it comes to Q -/
def Wg (p : Program) (l : Launch) (e : Env) (R : Room) (s : State) (m : MethodId) (args : Array Value) (below : List Frame) (meth : Method) (c : Code) (Q : State → Prop) (D : va_G) (tA : Nat → ClassId) (lo k : Nat) (ad0 : Nat → Nat) (n0 : Nat) (pc : Nat) (ls st : List Value) (bc bs : Nat) (hp : Hp) : Prop :=
  ∀ (H : Heap) (locs : List Loc) (lsr : Array Slot) (ad : Nat → Nat) (cells slots : Nat), Rl s D tA lo k ad0 n0 ad hp ls st H locs lsr → cells + bc ≤ R.cells → slots + bs ≤ R.slots → W p l e R s m args below meth c H locs cells slots Q (F0 m pc lsr (st.map (tr ad)))
