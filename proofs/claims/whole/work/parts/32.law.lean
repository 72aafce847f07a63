/-! the law's walk out of a run of the small machine -/
section LAWRUN
variable {p : Program} {l : Launch} {e : Env} {s : State} {m : MethodId} {below : List Frame} {meth : Method} {c : Code} {b L : Nat} {xs : Nat → Int32}
/-- the heap that the law begins with: the script alone -/
def hp0 (L : Nat) (xs : Nat → Int32) : Hp := (0, fun _ => .inl (0, L, .inl xs))
set_option maxRecDepth 100000 in
theorem law_code : code = mB kL_law := rfl
theorem start_of (hdec : Dec) (hflags : l.flags = flags0) (C0 : lw_At p s m meth c b L xs)
    (hgo : Go kL_law 0 (iniL kL_law [.ref 0]) [] 603072 7215210 (hp0 L xs) (fun o _ => o = .inl (some (.int 1)))) :
    W p l e room_1 s m #[Value.ref b] below meth c s.heap [] 0 0 (lw_Z below #[Value.ref b] s) (entryFrame m ([Value.ref b] : List Value).toArray 9) := by
  obtain ⟨hx, hb, hr, hml, hown, hts, hX, hbl, hlk, hn⟩ := C0
  have htr : l.stackTraces = false := by unfold Launch.stackTraces; rw [hflags]; decide
  obtain ⟨D, tA, hF, hZ⟩ := at_SF hts hn
  obtain ⟨n, ⟨out, hp'⟩, hg, hq⟩ := hgo
  dsimp only at hq
  subst hq
  have hCx : Cx p l room_1 s m meth c kL_law s.heap.size D tA := ⟨⟨hx, hb.trans law_code, hown, hml⟩, ⟨hlk, hr, fun h => absurd rfl h, fun h => absurd rfl h⟩, hF, hZ, Nat.le_refl _, ⟨by decide, by decide⟩, htr⟩
  have hW := snd hdec htr n kL_law 0 _ [] _ _ _ _ _ hg p e room_1 s m #[Value.ref b] below meth c (fun _ => b) 0 hCx (fun _ => ⟨_, rfl⟩)
  have hl := lv_entry [Value.ref b] (n := 9) (by show 1 ≤ 9; omega)
  have hwl : wl (fun _ => b) tA (hp0 L xs) = [] := rfl
  have hR : Rl s D tA s.heap.size kL_law (fun _ => b) 0 (fun _ => b) (hp0 L xs) (iniL kL_law [.ref 0]) [] s.heap [] ((lg_sl [Value.ref b] ++ List.replicate (9 - (lg_sl [Value.ref b]).length) Slot.unset).toArray) := by
    refine ⟨⟨fun k q hk => (by rw [hwl] at hk; cases hk), ⟨fun i j p q hi => (by rw [hwl] at hi; cases hi), fun k q hk => (by rw [hwl] at hk; cases hk)⟩, va_S.rf⟩, fun a h1 h2 => absurd (Nat.le_trans h1 h2) (by show ¬ 1 ≤ 0; omega), ⟨fun v hv => (by cases hv), fun v hv => ?_⟩, LR.ini (fun w hw => by rw [List.mem_singleton.mp hw]; rfl) (by decide) hl, ⟨fun _ _ => rfl, Nat.le_refl _⟩, L, xs, rfl, hX, hbl⟩
    rcases List.mem_append.mp hv with h | h
    · rw [List.mem_singleton.mp h]; exact Nat.le_refl _
    · rw [List.eq_of_mem_replicate h]; trivial
  have hW2 := hW s.heap [] _ (fun _ => b) 0 0 hR (by decide) (by decide)
  rw [lg_entry_eq]
  intro T hT X
  obtain ⟨t, a1, o, b1, b2, b3⟩ := hW2 T hT X
  refine ⟨t, a1, o, b1, b2, ?_⟩
  rcases b3 with ⟨⟨v, ad, h1, h2, -⟩, L9, ⟨hv, hWm, hsm⟩, hL⟩ | ⟨q, -, hT9⟩
  · cases h1
    exact ⟨h2, lw_closed (Drawn.sameBut.refl s.drawn lw_cs) hv hWm (hsm.weaken (fun y hy hlt => absurd hlt (Nat.not_lt.mpr (hL y hy))) (Nat.le_refl _) (Nat.le_refl _))⟩
  · obtain ⟨E, ce, L9, ⟨x, ad, h1, -⟩, -⟩ := hT9
    cases h1
end LAWRUN
