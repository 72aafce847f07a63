/-! the state that both sides begin with -/
section INI
def A0 : St := fun k l _ s => match k with
  | 9 => rowN1 48 s
  | 14 => rowC (-1) 3 l
  | 16 => rowC 100 3 l
  | 17 => rowC 5 3 l
  | 24 => rowC (-1) 3 l
  | 25 => rowC (-1) 3 l
  | 26 => rowC (-1) 3 l
  | 29 => if l < 3 then rowN1 48 s else 0
  | 34 => 2
  | 36 => -1
  | _ => 0
def M0 : St := fun k => if k ≤ 35 ∧ k ≠ 34 then A0 k else fun _ _ _ => 0
def S0 : Nat → St := fun _ => A0
def lsG (n : Nat) (C : Nat → Nat) : List va_E := [lsO n, .inl (8, 12, .inr (.inr (.inr (.inr (qA 12 C))))), .inl (1, 48, .inr (.inr (.inl fun _ => 0))), .inl (0, 48, .inl fun _ => 0), .inl (0, 48, .inl fun _ => 0), .inl (0, 48, .inl fun _ => 0)] ++ cuesL n 12
def dkG (n : Nat) (G L E C0 C1 C2 : Nat → Nat) : List va_E := [.inr (2, dkF n), .inl (0, 12, .inl fun _ => 0), .inl (5, 6, .inr (.inr (.inr (.inr (qA 6 G))))), .inr (6, [.ref (n + 5), .ref (n + 6), .int 0]), .inl (0, 8, .inl fun _ => 0), .inl (0, 8, .inl fun _ => 0), .inr (4, [.ref (n + 8), .int 0]), .inl (0, 48, .inl (rowN1 48)), .inl (6, 3, .inr (.inr (.inr (.inr (qA 3 L))))), .inl (7, 4, .inr (.inr (.inr (.inr (qA 4 E)))))] ++ (grpL n 6 ++ ((lsG (n + 22) C0 ++ (lsG (n + 64) C1 ++ lsG (n + 106) C2)) ++ effL 4))
theorem dkG_of {n : Nat} : dkL n 6 3 4 = dkG n (fun g => n + 11 + 2 * g) (fun l => n + 23 + 42 * l) (fun e => n + 149 + e) (fun c => n + 22 + 7 + 3 * c) (fun c => n + 64 + 7 + 3 * c) (fun c => n + 106 + 7 + 3 * c) := by
  have e3 : lstL n 3 = lsG (n + 22) (fun c => n + 22 + 7 + 3 * c) ++ (lsG (n + 64) (fun c => n + 64 + 7 + 3 * c) ++ lsG (n + 106) (fun c => n + 106 + 7 + 3 * c)) := by
    show (([] ++ lsL (n + 22) 12) ++ lsL (n + 64) 12) ++ lsL (n + 106) 12 = _
    rw [List.nil_append, List.append_assoc]
    rfl
  show deskH n 6 3 4 ++ (grpL n 6 ++ (lstL n 3 ++ effL 4)) = _
  rw [e3]
  rfl
theorem dkG_b {b n : Nat} (h : b = n + 1) : dkL n 6 3 4 = dkG n (aGrp b) (aL b) (aEff b) (aCue b 0) (aCue b 1) (aCue b 2) := by
  subst h
  rw [dkG_of]
  have e1 : (fun g => n + 11 + 2 * g) = aGrp (n + 1) := funext fun g => by unfold aGrp; omega
  have e2 : (fun l => n + 23 + 42 * l) = aL (n + 1) := funext fun g => by unfold aL; omega
  have e3 : (fun e => n + 149 + e) = aEff (n + 1) := funext fun g => by unfold aEff; omega
  have e4 : (fun c => n + 22 + 7 + 3 * c) = aCue (n + 1) 0 := funext fun g => by unfold aCue; omega
  have e5 : (fun c => n + 64 + 7 + 3 * c) = aCue (n + 1) 1 := funext fun g => by unfold aCue; omega
  have e6 : (fun c => n + 106 + 7 + 3 * c) = aCue (n + 1) 2 := funext fun g => by unfold aCue; omega
  rw [e1, e2, e3, e4, e5, e6]
set_option maxRecDepth 100000 in
theorem dk_2 : dkG 1 (aGrp 2) (aL 2) (aEff 2) (aCue 2 0) (aCue 2 1) (aCue 2 2) = (List.range 152).map (cellD 2 A0) := rfl
set_option maxRecDepth 100000 in
theorem dk_154 : dkG 153 (aGrp 154) (aL 154) (aEff 154) (aCue 154 0) (aCue 154 1) (aCue 154 2) = (List.range 152).map (cellD 154 A0) := rfl
theorem en_9 : rowC (-1) 48 = fun i => encE (M0 9 0 0 i) := by
  funext i
  show (if i < 48 then (-1 : Int32) else 0) = encE (if i < 48 then (-1 : Int32) else 0)
  by_cases h : i < 48
  · rw [if_pos h]; rfl
  · rw [if_neg h]; rfl
theorem en_29 : rowC (-1) 1728 = fun i => encE (M0 29 (i / 576) (i / 48 % 12) (i % 48)) := by
  funext i
  show (if i < 1728 then (-1 : Int32) else 0) = encE (if i / 576 < 3 then (if i % 48 < 48 then (-1 : Int32) else 0) else 0)
  by_cases h : i < 1728
  · rw [if_pos h, if_pos (show i / 576 < 3 by omega), if_pos (show i % 48 < 48 by omega)]; rfl
  · rw [if_neg h, if_neg (show ¬ i / 576 < 3 by omega)]; rfl
theorem en_24 {k : Nat} (hk : k = 24 ∨ k = 25 ∨ k = 26) : rowC (-1) 36 = fun i => M0 k (i / 12) (i % 12) 0 := by
  funext i
  have e : M0 k (i / 12) (i % 12) 0 = if i / 12 < 3 then (-1 : Int32) else 0 := by
    rcases hk with rfl | rfl | rfl <;> rfl
  rw [e]
  show (if i < 36 then (-1 : Int32) else 0) = _
  by_cases h : i < 36
  · rw [if_pos h, if_pos (show i / 12 < 3 by omega)]
  · rw [if_neg h, if_neg (show ¬ i / 12 < 3 by omega)]
set_option maxRecDepth 100000 in
theorem md_306 : mdL 305 = (List.range 34).map (cellM M0) := by
  have e : mdL 305 = mdG 305 (.inl (0, 48, .inl fun i => encE (M0 9 0 0 i))) (arC 3 (-1) 3) (arC 3 100 3) (arC 3 5 3) (.inl (0, 1728, .inl fun i => encE (M0 29 (i / 576) (i / 48 % 12) (i % 48)))) (.inl (0, 36, .inl fun i => M0 24 (i / 12) (i % 12) 0)) (.inl (0, 36, .inl fun i => M0 25 (i / 12) (i % 12) 0)) (.inl (0, 36, .inl fun i => M0 26 (i / 12) (i % 12) 0)) := by
    rw [← en_9, ← en_29, ← en_24 (Or.inl rfl), ← en_24 (Or.inr (Or.inl rfl)), ← en_24 (Or.inr (Or.inr rfl))]
    rfl
  rw [e]
  rfl
end INI
