/-- the run from here comes to an end with Q -/
def Go (k pc : Nat) (ls st : List Value) (bc bs : Nat) (hp : Hp) (Q : Out → Hp → Prop) : Prop := ∃ (n : Nat) (o : Out × Hp), go n k pc ls st bc bs hp = some o ∧ Q o.1 o.2
def Call (k : Nat) (as : List Value) (hp : Hp) (Q : Out → Hp → Prop) : Prop := Go k 0 (iniL k as) [] (mcT k) (msT k) hp Q
section GoLaws
variable {k pc k' pc' : Nat} {ls st ls' st' as rest : List Value} {bc bs bc' bs' : Nat} {hp hp' : Hp} {Q : Out → Hp → Prop} {i : Instr} {o : Out}
theorem go_next (n : Nat) (hi : ins k pc = some i) (ha : act k i pc ls st bc bs hp = some (.inl (pc', ls', st', bc', bs', hp'))) : go (n + 1) k pc ls st bc bs hp = go n k pc' ls' st' bc' bs' hp' := by
  simp only [go, hi, ha]
theorem go_mono : ∀ (n k pc : Nat) (ls st : List Value) (bc bs : Nat) (hp : Hp) (r : Out × Hp), go n k pc ls st bc bs hp = some r → go (n + 1) k pc ls st bc bs hp = some r := by
  intro n
  induction n with
  | zero => intro k pc ls st bc bs hp r h; exact absurd h (by simp [go])
  | succ n ih =>
    intro k pc ls st bc bs hp r h
    rw [go] at h ⊢
    cases hi : ins k pc with
    | none => rw [hi] at h; exact absurd h (by simp)
    | some i =>
      rw [hi] at h
      dsimp only at h ⊢
      cases ha : act k i pc ls st bc bs hp with
      | none => rw [ha] at h; exact absurd h (by simp)
      | some x =>
        rw [ha] at h
        rcases x with ⟨pc', ls', st', bc', bs', hp'⟩ | o | ⟨k', as, rest⟩
        · exact ih _ _ _ _ _ _ _ _ h
        · exact h
        · dsimp only at h ⊢
          by_cases hc : callOK k k' as rest bc bs = true
          · rw [if_pos hc] at h ⊢
            cases h1 : go n k' 0 (iniL k' as) [] (mcT k') (msT k') hp with
            | none => rw [h1] at h; exact absurd h (by simp)
            | some y =>
              rw [h1] at h
              rw [ih _ _ _ _ _ _ _ _ h1]
              rcases y with ⟨v | e, hp'⟩
              · exact ih _ _ _ _ _ _ _ _ h
              · dsimp only at h ⊢
                cases hm : mH k with
                | nil => rw [hm] at h; exact h
                | cons r0 rs =>
                  rw [hm] at h
                  dsimp only at h ⊢
                  cases hh : hndF k pc e (r0 :: rs) with
                  | none => rw [hh] at h; exact absurd h (by simp)
                  | some hd =>
                    rw [hh] at h
                    dsimp only at h ⊢
                    cases hs : hst k hd with
                    | none => rw [hs] at h; exact absurd h (by simp)
                    | some w =>
                      rw [hs] at h
                      rcases w with ⟨pc2, j⟩
                      dsimp only at h ⊢
                      by_cases hj : j < ls.length ∧ pok ls j = true
                      · rw [if_pos hj] at h ⊢
                        exact ih _ _ _ _ _ _ _ _ h
                      · rw [if_neg hj] at h
                        exact absurd h (by simp)
          · rw [if_neg hc] at h
            exact absurd h (by simp)
theorem go_le {n m : Nat} (hnm : n ≤ m) {r : Out × Hp} (h : go n k pc ls st bc bs hp = some r) : go m k pc ls st bc bs hp = some r := by
  induction m with
  | zero => rw [show n = 0 by omega] at h; exact h
  | succ m ih =>
    by_cases hm : n = m + 1
    · rw [← hm]; exact h
    · exact go_mono m _ _ _ _ _ _ _ _ (ih (by omega))
theorem Go_next (hi : ins k pc = some i) (ha : act k i pc ls st bc bs hp = some (.inl (pc', ls', st', bc', bs', hp'))) : Go k pc ls st bc bs hp Q ↔ Go k pc' ls' st' bc' bs' hp' Q := by
  constructor
  · rintro ⟨n, r, h, q⟩
    cases n with
    | zero => exact absurd h (by simp [go])
    | succ n => exact ⟨n, r, by rw [← go_next n hi ha]; exact h, q⟩
  · rintro ⟨n, r, h, q⟩
    exact ⟨n + 1, r, by rw [go_next n hi ha]; exact h, q⟩
theorem Go_ret (hi : ins k pc = some i) (ha : act k i pc ls st bc bs hp = some (.inr (.inl o))) : Go k pc ls st bc bs hp Q ↔ Q o hp := by
  constructor
  · rintro ⟨n, r, h, q⟩
    cases n with
    | zero => exact absurd h (by simp [go])
    | succ n =>
      simp only [go, hi, ha, Option.some.injEq] at h
      subst h
      exact q
  · intro q
    exact ⟨1, (o, hp), by simp only [go, hi, ha], q⟩
theorem Go_stuck (hi : ins k pc = some i) (ha : act k i pc ls st bc bs hp = none) : ¬ Go k pc ls st bc bs hp Q := by
  rintro ⟨n, r, h, q⟩
  cases n with
  | zero => exact absurd h (by simp [go])
  | succ n => simp [go, hi, ha] at h
theorem Go_if {c : Prop} [Decidable c] {A B : Cfg} (hi : ins k pc = some i) (ha : act k i pc ls st bc bs hp = if c then some (.inl A) else some (.inl B)) : Go k pc ls st bc bs hp Q ↔ (c → Go k A.1 A.2.1 A.2.2.1 A.2.2.2.1 A.2.2.2.2.1 A.2.2.2.2.2 Q) ∧ (¬ c → Go k B.1 B.2.1 B.2.2.1 B.2.2.2.1 B.2.2.2.2.1 B.2.2.2.2.2 Q) := by
  by_cases hc : c
  · rw [if_pos hc] at ha
    rw [Go_next hi ha]
    exact ⟨fun h => ⟨fun _ => h, fun n => absurd hc n⟩, fun h => h.1 hc⟩
  · rw [if_neg hc] at ha
    rw [Go_next hi ha]
    exact ⟨fun h => ⟨fun n => absurd n hc, fun _ => h⟩, fun h => h.2 hc⟩
/-- on with it if c holds -/
theorem Go_on {c : Prop} [Decidable c] (hi : ins k pc = some i) (ha : act k i pc ls st bc bs hp = if c then some (.inl (pc', ls', st', bc', bs', hp')) else none) : Go k pc ls st bc bs hp Q ↔ c ∧ Go k pc' ls' st' bc' bs' hp' Q := by
  by_cases hc : c
  · rw [if_pos hc] at ha
    rw [Go_next hi ha]
    exact ⟨fun h => ⟨hc, h⟩, fun h => h.2⟩
  · rw [if_neg hc] at ha
    exact ⟨fun h => absurd h (Go_stuck hi ha), fun h => absurd h.1 hc⟩
theorem Go_retIf {c : Prop} [Decidable c] (hi : ins k pc = some i) (ha : act k i pc ls st bc bs hp = if c then some (.inr (.inl o)) else none) : Go k pc ls st bc bs hp Q ↔ c ∧ Q o hp := by
  by_cases hc : c
  · rw [if_pos hc] at ha
    rw [Go_ret hi ha]
    exact ⟨fun h => ⟨hc, h⟩, fun h => h.2⟩
  · rw [if_neg hc] at ha
    exact ⟨fun h => absurd h (Go_stuck hi ha), fun h => absurd h.1 hc⟩
/-- behind a call -/
def Aft (k pc : Nat) (ls rest : List Value) (bc bs : Nat) (Q : Out → Hp → Prop) : Out → Hp → Prop := fun o hp => match o with
  | .inl v => Go k pc ls (v.toList ++ rest) bc bs hp Q
  | .inr e => Q (.inr e) hp
theorem Aft_some {v : Value} {hp : Hp} : Aft k pc ls rest bc bs Q (.inl (some v)) hp = Go k pc ls (v :: rest) bc bs hp Q := rfl
theorem Aft_none {hp : Hp} : Aft k pc ls rest bc bs Q (.inl none) hp = Go k pc ls rest bc bs hp Q := rfl
theorem Aft_thr {e : Nat} {hp : Hp} : Aft k pc ls rest bc bs Q (.inr e) hp = Q (.inr e) hp := rfl
def AftH (k pc hpc : Nat) (ls rest : List Value) (bc bs : Nat) (Q : Out → Hp → Prop) : Out → Hp → Prop := fun o hp => match o with
  | .inl v => Go k pc ls (v.toList ++ rest) bc bs hp Q
  | .inr e => (match hndF k hpc e (mH k) with
    | none => False
    | some h => (match hst k h with
      | none => False
      | some (pc2, j) => (j < ls.length ∧ pok ls j = true) ∧ Go k pc2 (ls.set j .null) [] bc bs hp Q))
theorem AftH_some {hpc : Nat} {v : Value} {hp : Hp} : AftH k pc hpc ls rest bc bs Q (.inl (some v)) hp = Go k pc ls (v :: rest) bc bs hp Q := rfl
theorem AftH_none {hpc : Nat} {hp : Hp} : AftH k pc hpc ls rest bc bs Q (.inl none) hp = Go k pc ls rest bc bs hp Q := rfl
theorem Go_call (hi : ins k pc = some i) (ha : act k i pc ls st bc bs hp = some (.inr (.inr (k', as, rest)))) (hh : mH k = []) : Go k pc ls st bc bs hp Q ↔ callOK k k' as rest bc bs = true ∧ Call k' as hp (Aft k (pc + 3) ls rest (bc - mcT k') (bs - msT k') Q) := by
  constructor
  · rintro ⟨n, r, h, q⟩
    cases n with
    | zero => exact absurd h (by simp [go])
    | succ n =>
      simp only [go, hi, ha] at h
      by_cases hc : callOK k k' as rest bc bs = true
      · rw [if_pos hc] at h
        refine ⟨hc, ?_⟩
        cases h1 : go n k' 0 (iniL k' as) [] (mcT k') (msT k') hp with
        | none => rw [h1] at h; exact absurd h (by simp)
        | some y =>
          rw [h1] at h
          refine ⟨n, y, h1, ?_⟩
          rcases y with ⟨v | e, hp'⟩
          · exact ⟨n, r, h, q⟩
          · simp only [hh, Option.some.injEq] at h
            subst h
            exact q
      · rw [if_neg hc] at h
        exact absurd h (by simp)
  · rintro ⟨hc, n, y, h1, q⟩
    rcases y with ⟨v | e, hp'⟩
    · obtain ⟨m, r, h2, q2⟩ := q
      refine ⟨max n m + 1, r, ?_, q2⟩
      simp only [go, hi, ha, if_pos hc, go_le (Nat.le_max_left n m) h1]
      exact go_le (Nat.le_max_right n m) h2
    · exact ⟨n + 1, (.inr e, hp'), by simp only [go, hi, ha, if_pos hc, h1, hh], q⟩
theorem Go_callH {r0 : Nat × Nat × Nat × Nat} {rs : List (Nat × Nat × Nat × Nat)} (hi : ins k pc = some i) (ha : act k i pc ls st bc bs hp = some (.inr (.inr (k', as, rest)))) (hh : mH k = r0 :: rs) : Go k pc ls st bc bs hp Q ↔ callOK k k' as rest bc bs = true ∧ Call k' as hp (AftH k (pc + 3) pc ls rest (bc - mcT k') (bs - msT k') Q) := by
  constructor
  · rintro ⟨n, r, h, q⟩
    cases n with
    | zero => exact absurd h (by simp [go])
    | succ n =>
      simp only [go, hi, ha] at h
      by_cases hc : callOK k k' as rest bc bs = true
      · rw [if_pos hc] at h
        refine ⟨hc, ?_⟩
        cases h1 : go n k' 0 (iniL k' as) [] (mcT k') (msT k') hp with
        | none => rw [h1] at h; exact absurd h (by simp)
        | some y =>
          rw [h1] at h
          refine ⟨n, y, h1, ?_⟩
          rcases y with ⟨v | e, hp'⟩
          · exact ⟨n, r, h, q⟩
          · simp only [hh] at h
            simp only [AftH, hh]
            cases h2 : hndF k pc e (r0 :: rs) with
            | none => rw [h2] at h; exact absurd h (by simp)
            | some hd =>
              rw [h2] at h
              dsimp only at h ⊢
              cases h3 : hst k hd with
              | none => rw [h3] at h; exact absurd h (by simp)
              | some w =>
                rw [h3] at h
                rcases w with ⟨pc2, j⟩
                dsimp only at h ⊢
                by_cases hj : j < ls.length ∧ pok ls j = true
                · rw [if_pos hj] at h
                  exact ⟨hj, n, r, h, q⟩
                · rw [if_neg hj] at h
                  exact absurd h (by simp)
      · rw [if_neg hc] at h
        exact absurd h (by simp)
  · rintro ⟨hc, n, y, h1, q⟩
    rcases y with ⟨v | e, hp'⟩
    · obtain ⟨m, r, h2, q2⟩ := q
      refine ⟨max n m + 1, r, ?_, q2⟩
      simp only [go, hi, ha, if_pos hc, go_le (Nat.le_max_left n m) h1]
      exact go_le (Nat.le_max_right n m) h2
    · simp only [AftH, hh] at q
      cases h2 : hndF k pc e (r0 :: rs) with
      | none => rw [h2] at q; exact absurd q (by simp)
      | some hd =>
        rw [h2] at q
        dsimp only at q
        cases h3 : hst k hd with
        | none => rw [h3] at q; exact absurd q (by simp)
        | some w =>
          rw [h3] at q
          rcases w with ⟨pc2, j⟩
          dsimp only at q
          obtain ⟨hj, m, r, h4, q2⟩ := q
          refine ⟨max n m + 1, r, ?_, q2⟩
          simp only [go, hi, ha, if_pos hc, go_le (Nat.le_max_left n m) h1, hh, h2, h3, if_pos hj]
          exact go_le (Nat.le_max_right n m) h4
end GoLaws
