/-! rows: an instruction, and what it needs -/
def RdF (hp : Hp) (a ci j : Nat) (K : Value → Prop) : Prop := match isObj hp a ci with
  | some fs => (match fs[j]? with
    | some v => K v
    | none => False)
  | none => False
def WrF (hp : Hp) (a ci j : Nat) (v : Value) (K : Hp → Prop) : Prop := match isObj hp a ci with
  | some fs => j < fs.length ∧ K (setHp hp a (.inr (ci, fs.set j v)))
  | none => False
def RdA (hp : Hp) (a t : Nat) (i : Int32) (K : Int32 → Prop) : Prop := match hp.2 a with
  | .inl (t', n, .inl f) => (t' = t ∧ (t = 0 ∨ 1 ≤ a) ∧ a ≤ hp.1) ∧ vp_in i n ∧ K (f i.toNatClampNeg)
  | _ => False
def WrA (hp : Hp) (a t : Nat) (i x : Int32) (K : Hp → Prop) : Prop := match hp.2 a with
  | .inl (t', n, .inl f) => (t' = t ∧ 1 ≤ a ∧ a ≤ hp.1) ∧ vp_in i n ∧ K (setHp hp a (.inl (t', n, .inl (upd f i.toNatClampNeg x))))
  | _ => False
def RdN (hp : Hp) (a : Nat) (i : Int32) (K : UInt32 → Prop) : Prop := match hp.2 a with
  | .inl (t', n, .inr (.inr (.inl f))) => (t' = 1 ∧ 1 ≤ a ∧ a ≤ hp.1) ∧ vp_in i n ∧ K (f i.toNatClampNeg)
  | _ => False
def WrN (hp : Hp) (a : Nat) (i : Int32) (x : UInt32) (K : Hp → Prop) : Prop := match hp.2 a with
  | .inl (t', n, .inr (.inr (.inl f))) => (t' = 1 ∧ 1 ≤ a ∧ a ≤ hp.1) ∧ vp_in i n ∧ K (setHp hp a (.inl (t', n, .inr (.inr (.inl (vf_upd f i.toNatClampNeg x))))))
  | _ => False
def RdL (hp : Hp) (a : Nat) (i : Int32) (K : Int64 → Prop) : Prop := match hp.2 a with
  | .inl (t', n, .inr (.inl f)) => (t' = 3 ∧ 1 ≤ a ∧ a ≤ hp.1) ∧ vp_in i n ∧ K (f i.toNatClampNeg)
  | _ => False
def WrL (hp : Hp) (a : Nat) (i : Int32) (x : Int64) (K : Hp → Prop) : Prop := match hp.2 a with
  | .inl (t', n, .inr (.inl f)) => (t' = 3 ∧ 1 ≤ a ∧ a ≤ hp.1) ∧ vp_in i n ∧ K (setHp hp a (.inl (t', n, .inr (.inl (vp_updL f i.toNatClampNeg x)))))
  | _ => False
def RdD (hp : Hp) (a : Nat) (i : Int32) (K : UInt64 → Prop) : Prop := match hp.2 a with
  | .inl (t', n, .inr (.inr (.inr (.inl f)))) => (t' = 4 ∧ 1 ≤ a ∧ a ≤ hp.1) ∧ vp_in i n ∧ K (f i.toNatClampNeg)
  | _ => False
def WrD (hp : Hp) (a : Nat) (i : Int32) (x : UInt64) (K : Hp → Prop) : Prop := match hp.2 a with
  | .inl (t', n, .inr (.inr (.inr (.inl f)))) => (t' = 4 ∧ 1 ≤ a ∧ a ≤ hp.1) ∧ vp_in i n ∧ K (setHp hp a (.inl (t', n, .inr (.inr (.inr (.inl (vf_upd f i.toNatClampNeg x)))))))
  | _ => False
def RdQ (hp : Hp) (a : Nat) (i : Int32) (K : Nat → Prop) : Prop := match hp.2 a with
  | .inl (t', n, .inr (.inr (.inr (.inr f)))) => ((5 ≤ t' ∧ t' ≤ 8) ∧ 1 ≤ a ∧ a ≤ hp.1) ∧ vp_in i n ∧ (match f i.toNatClampNeg with
    | some r => K r
    | none => False)
  | _ => False
def WrQ (hp : Hp) (a : Nat) (i : Int32) (v : Nat) (K : Hp → Prop) : Prop := match hp.2 a, hp.2 v with
  | .inl (t', n, .inr (.inr (.inr (.inr f)))), .inr (ci, _) => (arTag ci = some t' ∧ (1 ≤ v ∧ v ≤ hp.1) ∧ 1 ≤ a ∧ a ≤ hp.1) ∧ vp_in i n ∧ K (setHp hp a (.inl (t', n, .inr (.inr (.inr (.inr (va_up f i.toNatClampNeg (some v))))))))
  | _, _ => False
def RdLen (hp : Hp) (a : Nat) (K : Int32 → Prop) : Prop := match hp.2 a with
  | .inl (t', n, _) => (t' ≤ 8 ∧ (a = 0 → t' = 0) ∧ a ≤ hp.1) ∧ K (Int32.ofNat n)
  | _ => False
def Cpy (hp : Hp) (a0 a : Nat) (sp dp n : Int32) (K : Hp → Prop) : Prop := match hp.2 a0, hp.2 a with
  | .inl (t0, n0, .inl f), .inl (t1, n1, .inl g) => ((t0 = 0 ∧ t1 = 0) ∧ (1 ≤ a0 ∧ a0 ≤ hp.1) ∧ (1 ≤ a ∧ a ≤ hp.1) ∧ ¬ sp < 0 ∧ ¬ dp < 0 ∧ ¬ n < 0 ∧ sp.toNatClampNeg + n.toNatClampNeg ≤ n0 ∧ dp.toNatClampNeg + n.toNatClampNeg ≤ n1) ∧ K (setHp hp a (.inl (t1, n1, .inl (va_cpy f g sp.toNatClampNeg dp.toNatClampNeg n.toNatClampNeg))))
  | _, _ => False
section RowLaws
variable {k pc pc' x ci j m t t2 : Nat} {ls st as rest : List Value} {bc bs : Nat} {hp : Hp} {Q : Out → Hp → Prop} {i : Instr} {o : Out} {v : Value} {a : Nat} {q r : Int32}
theorem Go_ift {c : Prop} [Decidable c] (hi : ins k pc = some i) (ha : act k i pc ls st bc bs hp = if decide c = true then some (.inl (t, ls, rest, bc, bs, hp)) else some (.inl (t2, ls, rest, bc, bs, hp))) : Go k pc ls st bc bs hp Q ↔ (c → Go k t ls rest bc bs hp Q) ∧ (¬ c → Go k t2 ls rest bc bs hp Q) := by
  rw [Go_if (c := decide c = true) hi ha]
  simp only [decide_eq_true_eq]
theorem Go_ifn {c : Prop} [Decidable c] (hi : ins k pc = some i) (ha : act k i pc ls st bc bs hp = if decide (¬ c) = true then some (.inl (t, ls, rest, bc, bs, hp)) else some (.inl (t2, ls, rest, bc, bs, hp))) : Go k pc ls st bc bs hp Q ↔ (¬ c → Go k t ls rest bc bs hp Q) ∧ (c → Go k t2 ls rest bc bs hp Q) := by
  rw [Go_if (c := decide (¬ c) = true) hi ha]
  simp only [decide_eq_true_eq, Classical.not_not]
theorem Go_getf (hi : ins k pc = some (.getfield x)) (hf : fldOf k x = some (ci, j)) : Go k pc ls (.ref a :: st) bc bs hp Q ↔ RdF hp a ci j (fun v => Go k (pc + 3) ls (v :: st) bc bs hp Q) := by
  unfold RdF
  cases h1 : isObj hp a ci with
  | none => exact iff_of_false (Go_stuck hi (by simp only [act, hf, h1])) (fun h => h)
  | some fs =>
    dsimp only
    cases h2 : fs[j]? with
    | none => exact iff_of_false (Go_stuck hi (by simp only [act, hf, h1, h2])) (fun h => h)
    | some v => exact Go_next hi (by simp only [act, hf, h1, h2]; rfl)
theorem Go_putf (hi : ins k pc = some (.putfield x)) (hf : fldOf k x = some (ci, j)) : Go k pc ls (v :: .ref a :: st) bc bs hp Q ↔ putOK k ci j v = true ∧ WrF hp a ci j v (fun hp' => Go k (pc + 3) ls st bc bs hp' Q) := by
  unfold WrF
  cases h1 : isObj hp a ci with
  | none => exact iff_of_false (Go_stuck hi (by simp only [act, hf, h1])) (fun h => h.2)
  | some fs =>
    dsimp only
    rw [Go_on (c := j < fs.length ∧ putOK k ci j v = true) (pc' := pc + 3) (ls' := ls) (st' := st) (bc' := bc) (bs' := bs) (hp' := setHp hp a (.inr (ci, fs.set j v))) hi (by simp only [act, hf, h1]; rfl)]
    exact ⟨fun h => ⟨h.1.2, h.1.1, h.2⟩, fun h => ⟨⟨h.2.1, h.1⟩, h.2.2⟩⟩
theorem Go_puti (hi : ins k pc = some (.putfield x)) (hf : fldOf k x = some (ci, j)) (ho : putOK k ci j v = true) : Go k pc ls (v :: .ref a :: st) bc bs hp Q ↔ WrF hp a ci j v (fun hp' => Go k (pc + 3) ls st bc bs hp' Q) := by
  rw [Go_putf hi hf]
  exact ⟨fun h => h.2, fun h => ⟨ho, h⟩⟩
theorem Go_iald (hi : ins k pc = some .iaload) : Go k pc ls (.int q :: .ref a :: st) bc bs hp Q ↔ RdA hp a 0 q (fun v => Go k (pc + 1) ls (.int v :: st) bc bs hp Q) := by
  unfold RdA
  cases h : hp.2 a with
  | inr y => exact iff_of_false (Go_stuck hi (by simp only [act, h])) (fun h => h)
  | inl y =>
    obtain ⟨t, n, f⟩ := y
    rcases f with f | f
    · dsimp only
      rw [Go_on (c := t = 0 ∧ a ≤ hp.1 ∧ ¬ (q < 0 ∨ n ≤ q.toNatClampNeg)) (pc' := pc + 1) (ls' := ls) (st' := .int (f q.toNatClampNeg) :: st) (bc' := bc) (bs' := bs) (hp' := hp) hi (by simp only [act, h]; rfl)]
      exact ⟨fun h => ⟨⟨h.1.1, Or.inl rfl, h.1.2.1⟩, h.1.2.2, h.2⟩, fun h => ⟨⟨h.1.1, h.1.2.2, h.2.1⟩, h.2.2⟩⟩
    · exact iff_of_false (Go_stuck hi (by simp only [act, h])) (fun h => h)
theorem Go_bald (hi : ins k pc = some .baload) : Go k pc ls (.int q :: .ref a :: st) bc bs hp Q ↔ RdA hp a 2 q (fun v => Go k (pc + 1) ls (.int v :: st) bc bs hp Q) := by
  unfold RdA
  cases h : hp.2 a with
  | inr y => exact iff_of_false (Go_stuck hi (by simp only [act, h])) (fun h => h)
  | inl y =>
    obtain ⟨t, n, f⟩ := y
    rcases f with f | f
    · dsimp only
      rw [Go_on (c := t = 2 ∧ 1 ≤ a ∧ a ≤ hp.1 ∧ ¬ (q < 0 ∨ n ≤ q.toNatClampNeg)) (pc' := pc + 1) (ls' := ls) (st' := .int (f q.toNatClampNeg) :: st) (bc' := bc) (bs' := bs) (hp' := hp) hi (by simp only [act, h]; rfl)]
      refine ⟨fun h => ⟨⟨h.1.1, Or.inr h.1.2.1, h.1.2.2.1⟩, h.1.2.2.2, h.2⟩, fun h => ⟨⟨h.1.1, ?_, h.1.2.2, h.2.1⟩, h.2.2⟩⟩
      rcases h.1.2.1 with h | h
      · exact absurd h (by decide)
      · exact h
    · exact iff_of_false (Go_stuck hi (by simp only [act, h])) (fun h => h)
theorem Go_iast (hi : ins k pc = some .iastore) : Go k pc ls (.int r :: .int q :: .ref a :: st) bc bs hp Q ↔ WrA hp a 0 q r (fun hp' => Go k (pc + 1) ls st bc bs hp' Q) := by
  unfold WrA
  cases h : hp.2 a with
  | inr y => exact iff_of_false (Go_stuck hi (by simp only [act, h])) (fun h => h)
  | inl y =>
    obtain ⟨t, n, f⟩ := y
    rcases f with f | f
    · dsimp only
      rw [Go_on (c := t = 0 ∧ 1 ≤ a ∧ a ≤ hp.1 ∧ ¬ (q < 0 ∨ n ≤ q.toNatClampNeg)) (pc' := pc + 1) (ls' := ls) (st' := st) (bc' := bc) (bs' := bs) (hp' := setHp hp a (.inl (t, n, .inl (upd f q.toNatClampNeg r)))) hi (by simp only [act, h]; rfl)]
      exact ⟨fun h => ⟨⟨h.1.1, h.1.2.1, h.1.2.2.1⟩, h.1.2.2.2, h.2⟩, fun h => ⟨⟨h.1.1, h.1.2.1, h.1.2.2, h.2.1⟩, h.2.2⟩⟩
    · exact iff_of_false (Go_stuck hi (by simp only [act, h])) (fun h => h)
theorem Go_bast (hi : ins k pc = some .bastore) : Go k pc ls (.int r :: .int q :: .ref a :: st) bc bs hp Q ↔ WrA hp a 2 q (vp_nar .boolean r) (fun hp' => Go k (pc + 1) ls st bc bs hp' Q) := by
  unfold WrA
  cases h : hp.2 a with
  | inr y => exact iff_of_false (Go_stuck hi (by simp only [act, h])) (fun h => h)
  | inl y =>
    obtain ⟨t, n, f⟩ := y
    rcases f with f | f
    · dsimp only
      rw [Go_on (c := t = 2 ∧ 1 ≤ a ∧ a ≤ hp.1 ∧ ¬ (q < 0 ∨ n ≤ q.toNatClampNeg)) (pc' := pc + 1) (ls' := ls) (st' := st) (bc' := bc) (bs' := bs) (hp' := setHp hp a (.inl (t, n, .inl (upd f q.toNatClampNeg (vp_nar .boolean r))))) hi (by simp only [act, h]; rfl)]
      exact ⟨fun h => ⟨⟨h.1.1, h.1.2.1, h.1.2.2.1⟩, h.1.2.2.2, h.2⟩, fun h => ⟨⟨h.1.1, h.1.2.1, h.1.2.2, h.2.1⟩, h.2.2⟩⟩
    · exact iff_of_false (Go_stuck hi (by simp only [act, h])) (fun h => h)
theorem Go_fald (hi : ins k pc = some .faload) : Go k pc ls (.int q :: .ref a :: st) bc bs hp Q ↔ RdN hp a q (fun v => Go k (pc + 1) ls (.float v :: st) bc bs hp Q) := by
  unfold RdN
  cases h : hp.2 a with
  | inr y => exact iff_of_false (Go_stuck hi (by simp only [act, h])) (fun h => h)
  | inl y =>
    obtain ⟨t, n, f⟩ := y
    rcases f with f | f | f | f
    · exact iff_of_false (Go_stuck hi (by simp only [act, h])) (fun h => h)
    · exact iff_of_false (Go_stuck hi (by simp only [act, h])) (fun h => h)
    · dsimp only
      rw [Go_on (c := t = 1 ∧ 1 ≤ a ∧ a ≤ hp.1 ∧ ¬ (q < 0 ∨ n ≤ q.toNatClampNeg)) (pc' := pc + 1) (ls' := ls) (st' := .float (f q.toNatClampNeg) :: st) (bc' := bc) (bs' := bs) (hp' := hp) hi (by simp only [act, h]; rfl)]
      exact ⟨fun h => ⟨⟨h.1.1, h.1.2.1, h.1.2.2.1⟩, h.1.2.2.2, h.2⟩, fun h => ⟨⟨h.1.1, h.1.2.1, h.1.2.2, h.2.1⟩, h.2.2⟩⟩
    · exact iff_of_false (Go_stuck hi (by simp only [act, h])) (fun h => h)
theorem Go_fast {r : UInt32} (hi : ins k pc = some .fastore) : Go k pc ls (.float r :: .int q :: .ref a :: st) bc bs hp Q ↔ WrN hp a q r (fun hp' => Go k (pc + 1) ls st bc bs hp' Q) := by
  unfold WrN
  cases h : hp.2 a with
  | inr y => exact iff_of_false (Go_stuck hi (by simp only [act, h])) (fun h => h)
  | inl y =>
    obtain ⟨t, n, f⟩ := y
    rcases f with f | f | f | f
    · exact iff_of_false (Go_stuck hi (by simp only [act, h])) (fun h => h)
    · exact iff_of_false (Go_stuck hi (by simp only [act, h])) (fun h => h)
    · dsimp only
      rw [Go_on (c := t = 1 ∧ 1 ≤ a ∧ a ≤ hp.1 ∧ ¬ (q < 0 ∨ n ≤ q.toNatClampNeg)) (pc' := pc + 1) (ls' := ls) (st' := st) (bc' := bc) (bs' := bs) (hp' := setHp hp a (.inl (t, n, .inr (.inr (.inl (vf_upd f q.toNatClampNeg r)))))) hi (by simp only [act, h]; rfl)]
      exact ⟨fun h => ⟨⟨h.1.1, h.1.2.1, h.1.2.2.1⟩, h.1.2.2.2, h.2⟩, fun h => ⟨⟨h.1.1, h.1.2.1, h.1.2.2, h.2.1⟩, h.2.2⟩⟩
    · exact iff_of_false (Go_stuck hi (by simp only [act, h])) (fun h => h)
theorem Go_lald (hi : ins k pc = some .laload) : Go k pc ls (.int q :: .ref a :: st) bc bs hp Q ↔ RdL hp a q (fun v => Go k (pc + 1) ls (.long v :: st) bc bs hp Q) := by
  unfold RdL
  cases h : hp.2 a with
  | inr y => exact iff_of_false (Go_stuck hi (by simp only [act, h])) (fun h => h)
  | inl y =>
    obtain ⟨t, n, f⟩ := y
    rcases f with f | f | f
    · exact iff_of_false (Go_stuck hi (by simp only [act, h])) (fun h => h)
    · dsimp only
      rw [Go_on (c := t = 3 ∧ 1 ≤ a ∧ a ≤ hp.1 ∧ ¬ (q < 0 ∨ n ≤ q.toNatClampNeg)) (pc' := pc + 1) (ls' := ls) (st' := .long (f q.toNatClampNeg) :: st) (bc' := bc) (bs' := bs) (hp' := hp) hi (by simp only [act, h]; rfl)]
      exact ⟨fun h => ⟨⟨h.1.1, h.1.2.1, h.1.2.2.1⟩, h.1.2.2.2, h.2⟩, fun h => ⟨⟨h.1.1, h.1.2.1, h.1.2.2, h.2.1⟩, h.2.2⟩⟩
    · exact iff_of_false (Go_stuck hi (by simp only [act, h])) (fun h => h)
theorem Go_last {r : Int64} (hi : ins k pc = some .lastore) : Go k pc ls (.long r :: .int q :: .ref a :: st) bc bs hp Q ↔ WrL hp a q r (fun hp' => Go k (pc + 1) ls st bc bs hp' Q) := by
  unfold WrL
  cases h : hp.2 a with
  | inr y => exact iff_of_false (Go_stuck hi (by simp only [act, h])) (fun h => h)
  | inl y =>
    obtain ⟨t, n, f⟩ := y
    rcases f with f | f | f
    · exact iff_of_false (Go_stuck hi (by simp only [act, h])) (fun h => h)
    · dsimp only
      rw [Go_on (c := t = 3 ∧ 1 ≤ a ∧ a ≤ hp.1 ∧ ¬ (q < 0 ∨ n ≤ q.toNatClampNeg)) (pc' := pc + 1) (ls' := ls) (st' := st) (bc' := bc) (bs' := bs) (hp' := setHp hp a (.inl (t, n, .inr (.inl (vp_updL f q.toNatClampNeg r))))) hi (by simp only [act, h]; rfl)]
      exact ⟨fun h => ⟨⟨h.1.1, h.1.2.1, h.1.2.2.1⟩, h.1.2.2.2, h.2⟩, fun h => ⟨⟨h.1.1, h.1.2.1, h.1.2.2, h.2.1⟩, h.2.2⟩⟩
    · exact iff_of_false (Go_stuck hi (by simp only [act, h])) (fun h => h)
theorem Go_dald (hi : ins k pc = some .daload) : Go k pc ls (.int q :: .ref a :: st) bc bs hp Q ↔ RdD hp a q (fun v => Go k (pc + 1) ls (.double v :: st) bc bs hp Q) := by
  unfold RdD
  cases h : hp.2 a with
  | inr y => exact iff_of_false (Go_stuck hi (by simp only [act, h])) (fun h => h)
  | inl y =>
    obtain ⟨t, n, f⟩ := y
    rcases f with f | f | f | f | f
    · exact iff_of_false (Go_stuck hi (by simp only [act, h])) (fun h => h)
    · exact iff_of_false (Go_stuck hi (by simp only [act, h])) (fun h => h)
    · exact iff_of_false (Go_stuck hi (by simp only [act, h])) (fun h => h)
    · dsimp only
      rw [Go_on (c := t = 4 ∧ 1 ≤ a ∧ a ≤ hp.1 ∧ ¬ (q < 0 ∨ n ≤ q.toNatClampNeg)) (pc' := pc + 1) (ls' := ls) (st' := .double (f q.toNatClampNeg) :: st) (bc' := bc) (bs' := bs) (hp' := hp) hi (by simp only [act, h]; rfl)]
      exact ⟨fun h => ⟨⟨h.1.1, h.1.2.1, h.1.2.2.1⟩, h.1.2.2.2, h.2⟩, fun h => ⟨⟨h.1.1, h.1.2.1, h.1.2.2, h.2.1⟩, h.2.2⟩⟩
    · exact iff_of_false (Go_stuck hi (by simp only [act, h])) (fun h => h)
theorem Go_dast {r : UInt64} (hi : ins k pc = some .dastore) : Go k pc ls (.double r :: .int q :: .ref a :: st) bc bs hp Q ↔ WrD hp a q r (fun hp' => Go k (pc + 1) ls st bc bs hp' Q) := by
  unfold WrD
  cases h : hp.2 a with
  | inr y => exact iff_of_false (Go_stuck hi (by simp only [act, h])) (fun h => h)
  | inl y =>
    obtain ⟨t, n, f⟩ := y
    rcases f with f | f | f | f | f
    · exact iff_of_false (Go_stuck hi (by simp only [act, h])) (fun h => h)
    · exact iff_of_false (Go_stuck hi (by simp only [act, h])) (fun h => h)
    · exact iff_of_false (Go_stuck hi (by simp only [act, h])) (fun h => h)
    · dsimp only
      rw [Go_on (c := t = 4 ∧ 1 ≤ a ∧ a ≤ hp.1 ∧ ¬ (q < 0 ∨ n ≤ q.toNatClampNeg)) (pc' := pc + 1) (ls' := ls) (st' := st) (bc' := bc) (bs' := bs) (hp' := setHp hp a (.inl (t, n, .inr (.inr (.inr (.inl (vf_upd f q.toNatClampNeg r))))))) hi (by simp only [act, h]; rfl)]
      exact ⟨fun h => ⟨⟨h.1.1, h.1.2.1, h.1.2.2.1⟩, h.1.2.2.2, h.2⟩, fun h => ⟨⟨h.1.1, h.1.2.1, h.1.2.2, h.2.1⟩, h.2.2⟩⟩
    · exact iff_of_false (Go_stuck hi (by simp only [act, h])) (fun h => h)
theorem Go_aald (hi : ins k pc = some .aaload) : Go k pc ls (.int q :: .ref a :: st) bc bs hp Q ↔ RdQ hp a q (fun v => Go k (pc + 1) ls (.ref v :: st) bc bs hp Q) := by
  unfold RdQ
  cases h : hp.2 a with
  | inr y => exact iff_of_false (Go_stuck hi (by simp only [act, h])) (fun h => h)
  | inl y =>
    obtain ⟨t, n, f⟩ := y
    rcases f with f | f | f | f | f
    · exact iff_of_false (Go_stuck hi (by simp only [act, h])) (fun h => h)
    · exact iff_of_false (Go_stuck hi (by simp only [act, h])) (fun h => h)
    · exact iff_of_false (Go_stuck hi (by simp only [act, h])) (fun h => h)
    · exact iff_of_false (Go_stuck hi (by simp only [act, h])) (fun h => h)
    · dsimp only
      by_cases hc : (5 ≤ t ∧ t ≤ 8) ∧ 1 ≤ a ∧ a ≤ hp.1 ∧ ¬ (q < 0 ∨ n ≤ q.toNatClampNeg)
      · cases h2 : f q.toNatClampNeg with
        | none => exact iff_of_false (Go_stuck hi (by simp only [act, h, h2, if_pos hc])) (fun h => h.2.2)
        | some r =>
          rw [Go_next (pc' := pc + 1) (ls' := ls) (st' := .ref r :: st) (bc' := bc) (bs' := bs) (hp' := hp) hi (by simp only [act, h, h2, if_pos hc]; rfl)]
          exact ⟨fun h => ⟨⟨hc.1, hc.2.1, hc.2.2.1⟩, hc.2.2.2, h⟩, fun h => h.2.2⟩
      · exact iff_of_false (Go_stuck hi (by simp only [act, h, if_neg hc])) (fun h => hc ⟨h.1.1, h.1.2.1, h.1.2.2, h.2.1⟩)
theorem Go_aast {r : Nat} (hi : ins k pc = some .aastore) : Go k pc ls (.ref r :: .int q :: .ref a :: st) bc bs hp Q ↔ WrQ hp a q r (fun hp' => Go k (pc + 1) ls st bc bs hp' Q) := by
  unfold WrQ
  cases h : hp.2 a with
  | inr y => exact iff_of_false (Go_stuck hi (by simp only [act, h])) (fun h => h)
  | inl y =>
    obtain ⟨t, n, f⟩ := y
    rcases f with f | f | f | f | f
    · exact iff_of_false (Go_stuck hi (by simp only [act, h])) (fun h => h)
    · exact iff_of_false (Go_stuck hi (by simp only [act, h])) (fun h => h)
    · exact iff_of_false (Go_stuck hi (by simp only [act, h])) (fun h => h)
    · exact iff_of_false (Go_stuck hi (by simp only [act, h])) (fun h => h)
    · cases h2 : hp.2 r with
      | inl y => exact iff_of_false (Go_stuck hi (by simp only [act, h, h2])) (fun h => h)
      | inr y =>
        obtain ⟨ci, vs⟩ := y
        dsimp only
        rw [Go_on (c := arTag ci = some t ∧ (1 ≤ r ∧ r ≤ hp.1) ∧ 1 ≤ a ∧ a ≤ hp.1 ∧ ¬ (q < 0 ∨ n ≤ q.toNatClampNeg)) (pc' := pc + 1) (ls' := ls) (st' := st) (bc' := bc) (bs' := bs) (hp' := setHp hp a (.inl (t, n, .inr (.inr (.inr (.inr (va_up f q.toNatClampNeg (some r)))))))) hi (by simp only [act, h, h2]; rfl)]
        exact ⟨fun h => ⟨⟨h.1.1, h.1.2.1, h.1.2.2.1, h.1.2.2.2.1⟩, h.1.2.2.2.2, h.2⟩, fun h => ⟨⟨h.1.1, h.1.2.1, h.1.2.2.1, h.1.2.2.2, h.2.1⟩, h.2.2⟩⟩
theorem Go_alen (hi : ins k pc = some .arraylength) : Go k pc ls (.ref a :: st) bc bs hp Q ↔ RdLen hp a (fun v => Go k (pc + 1) ls (.int v :: st) bc bs hp Q) := by
  unfold RdLen
  cases h : hp.2 a with
  | inr y => exact iff_of_false (Go_stuck hi (by simp only [act, h])) (fun h => h)
  | inl y =>
    obtain ⟨t, n, f⟩ := y
    dsimp only
    rw [Go_on (c := t ≤ 8 ∧ (a = 0 → t = 0) ∧ a ≤ hp.1) (pc' := pc + 1) (ls' := ls) (st' := .int (Int32.ofNat n) :: st) (bc' := bc) (bs' := bs) (hp' := hp) hi (by simp only [act, h]; rfl)]
/-- a call's static part, and the part that the run decides -/
def calStat (k k' : Nat) (as : List Value) : Bool := decide (hgt k' < hgt k) && (decide (k' < 233) && (as.all (fun v => decide (v.category = 1)) && decide (as.length ≤ mL k')))
theorem callOK_iff {k' : Nat} : callOK k k' as rest bc bs = true ↔ calStat k k' as = true ∧ mcT k' ≤ bc ∧ msT k' ≤ bs ∧ nsum rest ≤ 8 := by
  simp only [callOK, calStat, Bool.and_eq_true, decide_eq_true_eq]
  constructor
  · rintro ⟨a, b, c, d, e, f, g⟩; exact ⟨⟨a, b, f, g⟩, c, d, e⟩
  · rintro ⟨⟨a, b, f, g⟩, c, d, e⟩; exact ⟨a, b, c, d, e, f, g⟩
theorem Go_inv {k' mc ms : Nat} (hi : ins k pc = some i) (ha : act k i pc ls st bc bs hp = callO k' as rest) (hh : mH k = []) (h1 : mcT k' = mc) (h2 : msT k' = ms) (hS : calStat k k' as = true) : Go k pc ls st bc bs hp Q ↔ (mc ≤ bc ∧ ms ≤ bs ∧ nsum rest ≤ 8) ∧ Call k' as hp (Aft k (pc + 3) ls rest (bc - mc) (bs - ms) Q) := by
  subst h1; subst h2
  rw [Go_call hi ha hh, callOK_iff]
  exact ⟨fun h => ⟨h.1.2, h.2⟩, fun h => ⟨⟨hS, h.1⟩, h.2⟩⟩
theorem Go_invH {k' mc ms : Nat} {r0 : Nat × Nat × Nat × Nat} {rs : List (Nat × Nat × Nat × Nat)} (hi : ins k pc = some i) (ha : act k i pc ls st bc bs hp = callO k' as rest) (hh : mH k = r0 :: rs) (h1 : mcT k' = mc) (h2 : msT k' = ms) (hS : calStat k k' as = true) : Go k pc ls st bc bs hp Q ↔ (mc ≤ bc ∧ ms ≤ bs ∧ nsum rest ≤ 8) ∧ Call k' as hp (AftH k (pc + 3) pc ls rest (bc - mc) (bs - ms) Q) := by
  subst h1; subst h2
  rw [Go_callH hi ha hh, callOK_iff]
  exact ⟨fun h => ⟨h.1.2, h.2⟩, fun h => ⟨⟨hS, h.1⟩, h.2⟩⟩
theorem Go_inv0 {k' : Nat} (hi : ins k pc = some i) (ha : act k i pc ls st bc bs hp = callO k' as rest) (hh : mH k = []) (h1 : mcT k' = 0) (h2 : msT k' = 0) (hS : calStat k k' as = true) : Go k pc ls st bc bs hp Q ↔ nsum rest ≤ 8 ∧ Call k' as hp (Aft k (pc + 3) ls rest bc bs Q) := by
  rw [Go_inv hi ha hh h1 h2 hS]
  exact ⟨fun h => ⟨h.1.2.2, h.2⟩, fun h => ⟨⟨Nat.zero_le _, Nat.zero_le _, h.1⟩, h.2⟩⟩
/-- the receiver is of the class -/
def Rcv (hp : Hp) (b ci : Nat) : Prop := (isObj hp b ci).isSome = true
theorem Go_invV {k' mc ms b : Nat} (hi : ins k pc = some (.invokevirtual x)) (hc : calOf k x = some (0, k')) (hs : st[mA k']? = some (.ref b)) (ht : (st.take (mA k' + 1)).reverse = as) (hd : st.drop (mA k' + 1) = rest) (ho : mO k' = ci) (hh : mH k = []) (h1 : mcT k' = mc) (h2 : msT k' = ms) (hS : calStat k k' as = true) : Go k pc ls st bc bs hp Q ↔ Rcv hp b ci ∧ (mc ≤ bc ∧ ms ≤ bs ∧ nsum rest ≤ 8) ∧ Call k' as hp (Aft k (pc + 3) ls rest (bc - mc) (bs - ms) Q) := by
  subst ht; subst hd; subst ho
  unfold Rcv
  by_cases hb : (isObj hp b (mO k')).isSome = true
  · rw [Go_inv (rest := st.drop (mA k' + 1)) hi (by simp only [act, hc, hs, if_pos hb]) hh h1 h2 hS]
    exact ⟨fun h => ⟨hb, h⟩, fun h => h.2⟩
  · exact iff_of_false (Go_stuck hi (by simp only [act, hc, hs, if_neg hb])) (fun h => hb h.1)
theorem Go_invV0 {k' b : Nat} (hi : ins k pc = some (.invokevirtual x)) (hc : calOf k x = some (0, k')) (hs : st[mA k']? = some (.ref b)) (ht : (st.take (mA k' + 1)).reverse = as) (hd : st.drop (mA k' + 1) = rest) (ho : mO k' = ci) (hh : mH k = []) (h1 : mcT k' = 0) (h2 : msT k' = 0) (hS : calStat k k' as = true) : Go k pc ls st bc bs hp Q ↔ Rcv hp b ci ∧ nsum rest ≤ 8 ∧ Call k' as hp (Aft k (pc + 3) ls rest bc bs Q) := by
  rw [Go_invV hi hc hs ht hd ho hh h1 h2 hS]
  exact ⟨fun h => ⟨h.1, h.2.1.2.2, h.2.2⟩, fun h => ⟨h.1, ⟨Nat.zero_le _, Nat.zero_le _, h.2.1⟩, h.2.2⟩⟩
theorem Go_invVH {k' mc ms b : Nat} {r0 : Nat × Nat × Nat × Nat} {rs : List (Nat × Nat × Nat × Nat)} (hi : ins k pc = some (.invokevirtual x)) (hc : calOf k x = some (0, k')) (hs : st[mA k']? = some (.ref b)) (ht : (st.take (mA k' + 1)).reverse = as) (hd : st.drop (mA k' + 1) = rest) (ho : mO k' = ci) (hh : mH k = r0 :: rs) (h1 : mcT k' = mc) (h2 : msT k' = ms) (hS : calStat k k' as = true) : Go k pc ls st bc bs hp Q ↔ Rcv hp b ci ∧ (mc ≤ bc ∧ ms ≤ bs ∧ nsum rest ≤ 8) ∧ Call k' as hp (AftH k (pc + 3) pc ls rest (bc - mc) (bs - ms) Q) := by
  subst ht; subst hd; subst ho
  unfold Rcv
  by_cases hb : (isObj hp b (mO k')).isSome = true
  · rw [Go_invH (rest := st.drop (mA k' + 1)) hi (by simp only [act, hc, hs, if_pos hb]) hh h1 h2 hS]
    exact ⟨fun h => ⟨hb, h⟩, fun h => h.2⟩
  · exact iff_of_false (Go_stuck hi (by simp only [act, hc, hs, if_neg hb])) (fun h => hb h.1)
theorem Go_throw {e : Nat} (hi : ins k pc = some (.new x)) (hn : newOf k x = some (1, e)) (ht : throwAt k pc x = true) (hh : mH k = []) : Go k pc ls st bc bs hp Q ↔ (1 ≤ bc ∧ 6 ≤ bs ∧ nsum st ≤ 8) ∧ Q (.inr e) hp := by
  rw [Go_retIf (o := .inr e) (c := throwAt k pc x = true ∧ mH k = [] ∧ 1 ≤ bc ∧ 6 ≤ bs ∧ nsum st ≤ 8) hi (by simp only [act, hn])]
  exact ⟨fun h => ⟨h.1.2.2, h.2⟩, fun h => ⟨⟨ht, hh, h.1⟩, h.2⟩⟩
theorem Go_new {N : Nat} (hi : ins k pc = some (.new x)) (hn : newOf k x = some (0, ci)) (hc : ci < 9) (hN : nF ci = N) : Go k pc ls st bc bs hp Q ↔ (1 ≤ bc ∧ N ≤ bs) ∧ Go k (pc + 3) ls (.ref (hp.1 + 1) :: st) (bc - 1) (bs - N) (addHp hp (.inr (ci, dflt ci))) Q := by
  subst hN
  rw [Go_on (c := ci < 9 ∧ 1 ≤ bc ∧ nF ci ≤ bs) (pc' := pc + 3) (ls' := ls) (st' := .ref (hp.1 + 1) :: st) (bc' := bc - 1) (bs' := bs - nF ci) (hp' := addHp hp (.inr (ci, dflt ci))) hi (by simp only [act, hn]; rfl)]
  exact ⟨fun h => ⟨h.1.2, h.2⟩, fun h => ⟨⟨hc, h.1⟩, h.2⟩⟩
theorem Go_newa {ty : ArrayType} {N : Nat} {a0 : vp_A} (hi : ins k pc = some (.newarray ty)) (hN : q.toNatClampNeg = N) (h0 : ¬ q < 0) (hN2 : N ≤ 65536) (ha : newA (atTag ty) N = some a0) (ht : atTag ty = t) : Go k pc ls (.int q :: st) bc bs hp Q ↔ (1 ≤ bc ∧ N ≤ bs) ∧ Go k (pc + 2) ls (.ref (hp.1 + 1) :: st) (bc - 1) (bs - N) (addHp hp (.inl (t, a0))) Q := by
  subst hN; subst ht
  rw [Go_on (c := ¬ q < 0 ∧ q.toNatClampNeg ≤ 65536 ∧ 1 ≤ bc ∧ q.toNatClampNeg ≤ bs) (pc' := pc + 2) (ls' := ls) (st' := .ref (hp.1 + 1) :: st) (bc' := bc - 1) (bs' := bs - q.toNatClampNeg) (hp' := addHp hp (.inl (atTag ty, a0))) hi (by simp only [act, ha]; rfl)]
  exact ⟨fun h => ⟨h.1.2.2, h.2⟩, fun h => ⟨⟨h0, hN2, h.1⟩, h.2⟩⟩
theorem Go_anew {N : Nat} (hi : ins k pc = some (.anewarray x)) (hn : newOf k x = some (0, ci)) (ht : arTag ci = some t) (hN : q.toNatClampNeg = N) (h0 : ¬ q < 0) (hN2 : N ≤ 65536) : Go k pc ls (.int q :: st) bc bs hp Q ↔ (1 ≤ bc ∧ N ≤ bs) ∧ Go k (pc + 3) ls (.ref (hp.1 + 1) :: st) (bc - 1) (bs - N) (addHp hp (.inl (t, N, .inr (.inr (.inr (.inr (fun _ => none))))))) Q := by
  subst hN
  rw [Go_on (c := ¬ q < 0 ∧ q.toNatClampNeg ≤ 65536 ∧ 1 ≤ bc ∧ q.toNatClampNeg ≤ bs) (pc' := pc + 3) (ls' := ls) (st' := .ref (hp.1 + 1) :: st) (bc' := bc - 1) (bs' := bs - q.toNatClampNeg) (hp' := addHp hp (.inl (t, q.toNatClampNeg, .inr (.inr (.inr (.inr (fun _ => none))))))) hi (by simp only [act, hn, ht]; rfl)]
  exact ⟨fun h => ⟨h.1.2.2, h.2⟩, fun h => ⟨⟨h0, hN2, h.1⟩, h.2⟩⟩
theorem Go_cpy {sp dp n : Int32} {a0 y : Nat} (hi : ins k pc = some (.invokestatic x)) (hc : calOf k x = some (8, y)) : Go k pc ls (.int n :: .int dp :: .ref a :: .int sp :: .ref a0 :: st) bc bs hp Q ↔ nsum st ≤ 8 ∧ Cpy hp a0 a sp dp n (fun hp' => Go k (pc + 3) ls st bc bs hp' Q) := by
  unfold Cpy
  cases h : hp.2 a0 with
  | inr y => exact iff_of_false (Go_stuck hi (by simp only [act, hc, h])) (fun h => h.2)
  | inl y =>
    obtain ⟨t0, n0, f⟩ := y
    rcases f with f | f
    · cases h2 : hp.2 a with
      | inr y => exact iff_of_false (Go_stuck hi (by simp only [act, hc, h, h2])) (fun h => h.2)
      | inl y =>
        obtain ⟨t1, n1, g⟩ := y
        rcases g with g | g
        · dsimp only
          rw [Go_on (c := (t0 = 0 ∧ t1 = 0) ∧ (1 ≤ a0 ∧ a0 ≤ hp.1) ∧ (1 ≤ a ∧ a ≤ hp.1) ∧ ¬ sp < 0 ∧ ¬ dp < 0 ∧ ¬ n < 0 ∧ sp.toNatClampNeg + n.toNatClampNeg ≤ n0 ∧ dp.toNatClampNeg + n.toNatClampNeg ≤ n1 ∧ nsum st ≤ 8) (pc' := pc + 3) (ls' := ls) (st' := st) (bc' := bc) (bs' := bs) (hp' := setHp hp a (.inl (t1, n1, .inl (va_cpy f g sp.toNatClampNeg dp.toNatClampNeg n.toNatClampNeg)))) hi (by simp only [act, hc, h, h2]; rfl)]
          constructor
          · rintro ⟨⟨z1, z2, z3, z4, z5, z6, z7, z8, z9⟩, z⟩; exact ⟨z9, ⟨z1, z2, z3, z4, z5, z6, z7, z8⟩, z⟩
          · rintro ⟨z9, ⟨z1, z2, z3, z4, z5, z6, z7, z8⟩, z⟩; exact ⟨⟨z1, z2, z3, z4, z5, z6, z7, z8, z9⟩, z⟩
        · exact iff_of_false (Go_stuck hi (by simp only [act, hc, h, h2])) (fun h => h.2)
    · exact iff_of_false (Go_stuck hi (by simp only [act, hc, h])) (fun h => h.2)
theorem Go_sto {v : Value} {ls' : List Value} (hi : ins k pc = some i) (ha : act k i pc ls st bc bs hp = (match st1 ls j v with | some l => nx t l rest bc bs hp | none => none)) (h : j < ls.length) (hp2 : pok ls j = true) (hs : ls.set j v = ls') : Go k pc ls st bc bs hp Q ↔ Go k t ls' rest bc bs hp Q := by
  subst hs
  exact Go_next hi (by rw [ha]; simp only [st1, if_pos (And.intro h hp2)]; rfl)
theorem Go_sto2 {v : Value} {ls' : List Value} (hi : ins k pc = some i) (ha : act k i pc ls st bc bs hp = (match st2 ls j v with | some l => nx t l rest bc bs hp | none => none)) (h : j + 1 < ls.length) (hp2 : pok ls j = true) (hs : (ls.set j v).set (j + 1) .null = ls') : Go k pc ls st bc bs hp Q ↔ Go k t ls' rest bc bs hp Q := by
  subst hs
  exact Go_next hi (by rw [ha]; simp only [st2, if_pos (And.intro h hp2)]; rfl)
theorem putOK_of (h1 : (decide ((tF ci j).2.2.2 = false) || (decide ((mY k).name = "<init>") && decide ((tF ci j).1 = ownT.getD (mO k) ""))) = true) (h2 : narrow (yF ci j) v = v) (h3 : fits (yF ci j) v = true) : putOK k ci j v = true := by
  simp only [putOK, h1, h2, h3, decide_true, Bool.and_self]
end RowLaws
theorem nsum_nil : nsum [] = 0 := rfl
theorem nsum_int {x : Int32} {st : List Value} : nsum (.int x :: st) = 1 + nsum st := by simp [nsum, Value.category]
theorem nsum_ref {x : Nat} {st : List Value} : nsum (.ref x :: st) = 1 + nsum st := by simp [nsum, Value.category]
theorem nsum_float {x : UInt32} {st : List Value} : nsum (.float x :: st) = 1 + nsum st := by simp [nsum, Value.category]
theorem nsum_long {x : Int64} {st : List Value} : nsum (.long x :: st) = 2 + nsum st := by simp [nsum, Value.category]
theorem nsum_double {x : UInt64} {st : List Value} : nsum (.double x :: st) = 2 + nsum st := by simp [nsum, Value.category]
theorem cat_int {x : Int32} : (Value.int x).category = 1 := rfl
theorem cat_ref {x : Nat} : (Value.ref x).category = 1 := rfl
theorem cat_float {x : UInt32} : (Value.float x).category = 1 := rfl
theorem cat_null : Value.null.category = 1 := rfl
