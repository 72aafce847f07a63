section
-- ===== PART A: goes FIRST, ahead of the names: the tables' words, and 'selects' of the private methods out of them =====
/-- a private method of a class that the tables say can be made, by its rows of tables_1 -/
def lw_okq (q : MethodName × Nat) : Prop := (q.1.cls ≠ "java/lang/invoke/MethodHandle" ∧ q.1.cls ≠ "java/lang/invoke/VarHandle") ∧ Cond.instantiable q.1.cls q.2 ∈ tables_1 ∧ Cond.privateMethod q.1 ∈ tables_1 ∧ Cond.instanceMethod q.1 ∈ tables_1
theorem lw_p0 : lw_okq (⟨"java/lang/Throwable", "fillInStackTrace", "(I)Ljava/lang/Throwable;"⟩, 6) := ⟨⟨by decide +kernel, by decide +kernel⟩, List.mem_of_getElem? (i := 398) (by decide +kernel), List.mem_of_getElem? (i := 396) (by decide +kernel), List.mem_of_getElem? (i := 397) (by decide +kernel)⟩
theorem lw_p1 : lw_okq (⟨"Lampboard", "needLamp", "(I)V"⟩, 2) := ⟨⟨by decide +kernel, by decide +kernel⟩, List.mem_of_getElem? (i := 26) (by decide +kernel), List.mem_of_getElem? (i := 464) (by decide +kernel), List.mem_of_getElem? (i := 465) (by decide +kernel)⟩
theorem lw_p2 : lw_okq (⟨"Lampboard", "needGroup", "(I)V"⟩, 2) := ⟨⟨by decide +kernel, by decide +kernel⟩, List.mem_of_getElem? (i := 26) (by decide +kernel), List.mem_of_getElem? (i := 532) (by decide +kernel), List.mem_of_getElem? (i := 533) (by decide +kernel)⟩
theorem lw_p3 : lw_okq (⟨"Lampboard", "needAttribute", "(I)V"⟩, 2) := ⟨⟨by decide +kernel, by decide +kernel⟩, List.mem_of_getElem? (i := 26) (by decide +kernel), List.mem_of_getElem? (i := 565) (by decide +kernel), List.mem_of_getElem? (i := 566) (by decide +kernel)⟩
theorem lw_p4 : lw_okq (⟨"Lampboard", "needPalette", "(I)V"⟩, 2) := ⟨⟨by decide +kernel, by decide +kernel⟩, List.mem_of_getElem? (i := 26) (by decide +kernel), List.mem_of_getElem? (i := 581) (by decide +kernel), List.mem_of_getElem? (i := 582) (by decide +kernel)⟩
theorem lw_p5 : lw_okq (⟨"Lampboard", "needSlot", "(II)V"⟩, 2) := ⟨⟨by decide +kernel, by decide +kernel⟩, List.mem_of_getElem? (i := 26) (by decide +kernel), List.mem_of_getElem? (i := 597) (by decide +kernel), List.mem_of_getElem? (i := 598) (by decide +kernel)⟩
theorem lw_p6 : lw_okq (⟨"Lampboard", "needList", "(I)V"⟩, 2) := ⟨⟨by decide +kernel, by decide +kernel⟩, List.mem_of_getElem? (i := 26) (by decide +kernel), List.mem_of_getElem? (i := 646) (by decide +kernel), List.mem_of_getElem? (i := 647) (by decide +kernel)⟩
theorem lw_p7 : lw_okq (⟨"Lampboard", "needCue", "(II)V"⟩, 2) := ⟨⟨by decide +kernel, by decide +kernel⟩, List.mem_of_getElem? (i := 26) (by decide +kernel), List.mem_of_getElem? (i := 687) (by decide +kernel), List.mem_of_getElem? (i := 688) (by decide +kernel)⟩
theorem lw_p8 : lw_okq (⟨"Lampboard", "needPresentCue", "(I)V"⟩, 2) := ⟨⟨by decide +kernel, by decide +kernel⟩, List.mem_of_getElem? (i := 26) (by decide +kernel), List.mem_of_getElem? (i := 812) (by decide +kernel), List.mem_of_getElem? (i := 813) (by decide +kernel)⟩
theorem lw_p9 : lw_okq (⟨"Lampboard$Desk", "updateSlot", "(LLampboard$CueList;I)V"⟩, 11) := ⟨⟨by decide +kernel, by decide +kernel⟩, List.mem_of_getElem? (i := 34) (by decide +kernel), List.mem_of_getElem? (i := 833) (by decide +kernel), List.mem_of_getElem? (i := 834) (by decide +kernel)⟩
theorem lw_p10 : lw_okq (⟨"Lampboard", "needEffect", "(I)V"⟩, 2) := ⟨⟨by decide +kernel, by decide +kernel⟩, List.mem_of_getElem? (i := 26) (by decide +kernel), List.mem_of_getElem? (i := 897) (by decide +kernel), List.mem_of_getElem? (i := 898) (by decide +kernel)⟩
theorem lw_p11 : lw_okq (⟨"Lampboard", "runEffect", "(II)I"⟩, 2) := ⟨⟨by decide +kernel, by decide +kernel⟩, List.mem_of_getElem? (i := 26) (by decide +kernel), List.mem_of_getElem? (i := 904) (by decide +kernel), List.mem_of_getElem? (i := 905) (by decide +kernel)⟩
theorem lw_p12 : lw_okq (⟨"Lampboard", "needEntry", "(IIII)I"⟩, 2) := ⟨⟨by decide +kernel, by decide +kernel⟩, List.mem_of_getElem? (i := 26) (by decide +kernel), List.mem_of_getElem? (i := 973) (by decide +kernel), List.mem_of_getElem? (i := 974) (by decide +kernel)⟩
theorem lw_p13 : lw_okq (⟨"LampboardModel", "fails", "(I)I"⟩, 41) := ⟨⟨by decide +kernel, by decide +kernel⟩, List.mem_of_getElem? (i := 1058) (by decide +kernel), List.mem_of_getElem? (i := 1197) (by decide +kernel), List.mem_of_getElem? (i := 1198) (by decide +kernel)⟩
theorem lw_p14 : lw_okq (⟨"LampboardModel", "isLamp", "(I)Z"⟩, 41) := ⟨⟨by decide +kernel, by decide +kernel⟩, List.mem_of_getElem? (i := 1058) (by decide +kernel), List.mem_of_getElem? (i := 1205) (by decide +kernel), List.mem_of_getElem? (i := 1206) (by decide +kernel)⟩
theorem lw_p15 : lw_okq (⟨"LampboardModel", "memberAt", "(II)I"⟩, 41) := ⟨⟨by decide +kernel, by decide +kernel⟩, List.mem_of_getElem? (i := 1058) (by decide +kernel), List.mem_of_getElem? (i := 1220) (by decide +kernel), List.mem_of_getElem? (i := 1221) (by decide +kernel)⟩
def lw_privs_1 : List (MethodName × Nat) := [(⟨"java/lang/Throwable", "fillInStackTrace", "(I)Ljava/lang/Throwable;"⟩, 6), (⟨"Lampboard", "needLamp", "(I)V"⟩, 2), (⟨"Lampboard", "needGroup", "(I)V"⟩, 2), (⟨"Lampboard", "needAttribute", "(I)V"⟩, 2), (⟨"Lampboard", "needPalette", "(I)V"⟩, 2), (⟨"Lampboard", "needSlot", "(II)V"⟩, 2), (⟨"Lampboard", "needList", "(I)V"⟩, 2), (⟨"Lampboard", "needCue", "(II)V"⟩, 2), (⟨"Lampboard", "needPresentCue", "(I)V"⟩, 2), (⟨"Lampboard$Desk", "updateSlot", "(LLampboard$CueList;I)V"⟩, 11), (⟨"Lampboard", "needEffect", "(I)V"⟩, 2), (⟨"Lampboard", "runEffect", "(II)I"⟩, 2), (⟨"Lampboard", "needEntry", "(IIII)I"⟩, 2), (⟨"LampboardModel", "fails", "(I)I"⟩, 41), (⟨"LampboardModel", "isLamp", "(I)Z"⟩, 41), (⟨"LampboardModel", "memberAt", "(II)I"⟩, 41)]
theorem lw_r1 : ∀ q ∈ lw_privs_1, lw_okq q := List.forall_mem_cons.mpr ⟨lw_p0, List.forall_mem_cons.mpr ⟨lw_p1, List.forall_mem_cons.mpr ⟨lw_p2, List.forall_mem_cons.mpr ⟨lw_p3, List.forall_mem_cons.mpr ⟨lw_p4, List.forall_mem_cons.mpr ⟨lw_p5, List.forall_mem_cons.mpr ⟨lw_p6, List.forall_mem_cons.mpr ⟨lw_p7, List.forall_mem_cons.mpr ⟨lw_p8, List.forall_mem_cons.mpr ⟨lw_p9, List.forall_mem_cons.mpr ⟨lw_p10, List.forall_mem_cons.mpr ⟨lw_p11, List.forall_mem_cons.mpr ⟨lw_p12, List.forall_mem_cons.mpr ⟨lw_p13, List.forall_mem_cons.mpr ⟨lw_p14, List.forall_mem_cons.mpr ⟨lw_p15, fun _ h => absurd h List.not_mem_nil⟩⟩⟩⟩⟩⟩⟩⟩⟩⟩⟩⟩⟩⟩⟩⟩
theorem lw_p16 : lw_okq (⟨"LampboardModel", "countProgrammer", "()I"⟩, 41) := ⟨⟨by decide +kernel, by decide +kernel⟩, List.mem_of_getElem? (i := 1058) (by decide +kernel), List.mem_of_getElem? (i := 1242) (by decide +kernel), List.mem_of_getElem? (i := 1243) (by decide +kernel)⟩
theorem lw_p17 : lw_okq (⟨"LampboardModel", "empties", "()V"⟩, 41) := ⟨⟨by decide +kernel, by decide +kernel⟩, List.mem_of_getElem? (i := 1058) (by decide +kernel), List.mem_of_getElem? (i := 1262) (by decide +kernel), List.mem_of_getElem? (i := 1263) (by decide +kernel)⟩
theorem lw_p18 : lw_okq (⟨"LampboardModel", "isList", "(I)Z"⟩, 41) := ⟨⟨by decide +kernel, by decide +kernel⟩, List.mem_of_getElem? (i := 1058) (by decide +kernel), List.mem_of_getElem? (i := 1270) (by decide +kernel), List.mem_of_getElem? (i := 1271) (by decide +kernel)⟩
theorem lw_p19 : lw_okq (⟨"LampboardModel", "at", "(III)I"⟩, 41) := ⟨⟨by decide +kernel, by decide +kernel⟩, List.mem_of_getElem? (i := 1058) (by decide +kernel), List.mem_of_getElem? (i := 1274) (by decide +kernel), List.mem_of_getElem? (i := 1275) (by decide +kernel)⟩
theorem lw_p20 : lw_okq (⟨"LampboardModel", "isCue", "(II)Z"⟩, 41) := ⟨⟨by decide +kernel, by decide +kernel⟩, List.mem_of_getElem? (i := 1058) (by decide +kernel), List.mem_of_getElem? (i := 1282) (by decide +kernel), List.mem_of_getElem? (i := 1283) (by decide +kernel)⟩
theorem lw_p21 : lw_okq (⟨"LampboardModel", "nextOf", "(I)I"⟩, 41) := ⟨⟨by decide +kernel, by decide +kernel⟩, List.mem_of_getElem? (i := 1058) (by decide +kernel), List.mem_of_getElem? (i := 1314) (by decide +kernel), List.mem_of_getElem? (i := 1315) (by decide +kernel)⟩
theorem lw_p22 : lw_okq (⟨"LampboardModel", "begins", "(II)I"⟩, 41) := ⟨⟨by decide +kernel, by decide +kernel⟩, List.mem_of_getElem? (i := 1058) (by decide +kernel), List.mem_of_getElem? (i := 1318) (by decide +kernel), List.mem_of_getElem? (i := 1319) (by decide +kernel)⟩
theorem lw_p23 : lw_okq (⟨"LampboardModel", "sourceOf", "(III)I"⟩, 41) := ⟨⟨by decide +kernel, by decide +kernel⟩, List.mem_of_getElem? (i := 1058) (by decide +kernel), List.mem_of_getElem? (i := 1322) (by decide +kernel), List.mem_of_getElem? (i := 1323) (by decide +kernel)⟩
theorem lw_p24 : lw_okq (⟨"LampboardModel", "valueOfFade", "(II)F"⟩, 41) := ⟨⟨by decide +kernel, by decide +kernel⟩, List.mem_of_getElem? (i := 1058) (by decide +kernel), List.mem_of_getElem? (i := 1326) (by decide +kernel), List.mem_of_getElem? (i := 1327) (by decide +kernel)⟩
theorem lw_p25 : lw_okq (⟨"LampboardModel", "trackedIn", "(III)I"⟩, 41) := ⟨⟨by decide +kernel, by decide +kernel⟩, List.mem_of_getElem? (i := 1058) (by decide +kernel), List.mem_of_getElem? (i := 1330) (by decide +kernel), List.mem_of_getElem? (i := 1331) (by decide +kernel)⟩
theorem lw_p26 : lw_okq (⟨"LampboardModel", "valueOf", "(I)I"⟩, 41) := ⟨⟨by decide +kernel, by decide +kernel⟩, List.mem_of_getElem? (i := 1058) (by decide +kernel), List.mem_of_getElem? (i := 1334) (by decide +kernel), List.mem_of_getElem? (i := 1335) (by decide +kernel)⟩
theorem lw_p27 : lw_okq (⟨"LampboardModel", "decided", "(I)F"⟩, 41) := ⟨⟨by decide +kernel, by decide +kernel⟩, List.mem_of_getElem? (i := 1058) (by decide +kernel), List.mem_of_getElem? (i := 1338) (by decide +kernel), List.mem_of_getElem? (i := 1339) (by decide +kernel)⟩
theorem lw_p28 : lw_okq (⟨"LampboardModel", "countRunning", "()I"⟩, 41) := ⟨⟨by decide +kernel, by decide +kernel⟩, List.mem_of_getElem? (i := 1058) (by decide +kernel), List.mem_of_getElem? (i := 1371) (by decide +kernel), List.mem_of_getElem? (i := 1372) (by decide +kernel)⟩
theorem lw_p29 : lw_okq (⟨"LampboardModel", "isSlot", "(II)Z"⟩, 41) := ⟨⟨by decide +kernel, by decide +kernel⟩, List.mem_of_getElem? (i := 1058) (by decide +kernel), List.mem_of_getElem? (i := 1383) (by decide +kernel), List.mem_of_getElem? (i := 1384) (by decide +kernel)⟩
theorem lw_p30 : lw_okq (⟨"LampboardModel", "put", "(I)F"⟩, 41) := ⟨⟨by decide +kernel, by decide +kernel⟩, List.mem_of_getElem? (i := 1058) (by decide +kernel), List.mem_of_getElem? (i := 1387) (by decide +kernel), List.mem_of_getElem? (i := 1388) (by decide +kernel)⟩
theorem lw_p31 : lw_okq (⟨"LampboardModel", "effect", "(II)F"⟩, 41) := ⟨⟨by decide +kernel, by decide +kernel⟩, List.mem_of_getElem? (i := 1058) (by decide +kernel), List.mem_of_getElem? (i := 1391) (by decide +kernel), List.mem_of_getElem? (i := 1392) (by decide +kernel)⟩
def lw_privs_2 : List (MethodName × Nat) := [(⟨"LampboardModel", "countProgrammer", "()I"⟩, 41), (⟨"LampboardModel", "empties", "()V"⟩, 41), (⟨"LampboardModel", "isList", "(I)Z"⟩, 41), (⟨"LampboardModel", "at", "(III)I"⟩, 41), (⟨"LampboardModel", "isCue", "(II)Z"⟩, 41), (⟨"LampboardModel", "nextOf", "(I)I"⟩, 41), (⟨"LampboardModel", "begins", "(II)I"⟩, 41), (⟨"LampboardModel", "sourceOf", "(III)I"⟩, 41), (⟨"LampboardModel", "valueOfFade", "(II)F"⟩, 41), (⟨"LampboardModel", "trackedIn", "(III)I"⟩, 41), (⟨"LampboardModel", "valueOf", "(I)I"⟩, 41), (⟨"LampboardModel", "decided", "(I)F"⟩, 41), (⟨"LampboardModel", "countRunning", "()I"⟩, 41), (⟨"LampboardModel", "isSlot", "(II)Z"⟩, 41), (⟨"LampboardModel", "put", "(I)F"⟩, 41), (⟨"LampboardModel", "effect", "(II)F"⟩, 41)]
theorem lw_r2 : ∀ q ∈ lw_privs_2, lw_okq q := List.forall_mem_cons.mpr ⟨lw_p16, List.forall_mem_cons.mpr ⟨lw_p17, List.forall_mem_cons.mpr ⟨lw_p18, List.forall_mem_cons.mpr ⟨lw_p19, List.forall_mem_cons.mpr ⟨lw_p20, List.forall_mem_cons.mpr ⟨lw_p21, List.forall_mem_cons.mpr ⟨lw_p22, List.forall_mem_cons.mpr ⟨lw_p23, List.forall_mem_cons.mpr ⟨lw_p24, List.forall_mem_cons.mpr ⟨lw_p25, List.forall_mem_cons.mpr ⟨lw_p26, List.forall_mem_cons.mpr ⟨lw_p27, List.forall_mem_cons.mpr ⟨lw_p28, List.forall_mem_cons.mpr ⟨lw_p29, List.forall_mem_cons.mpr ⟨lw_p30, List.forall_mem_cons.mpr ⟨lw_p31, fun _ h => absurd h List.not_mem_nil⟩⟩⟩⟩⟩⟩⟩⟩⟩⟩⟩⟩⟩⟩⟩⟩
theorem lw_p32 : lw_okq (⟨"LampboardModel", "lineValue", "(I)I"⟩, 41) := ⟨⟨by decide +kernel, by decide +kernel⟩, List.mem_of_getElem? (i := 1058) (by decide +kernel), List.mem_of_getElem? (i := 1414) (by decide +kernel), List.mem_of_getElem? (i := 1415) (by decide +kernel)⟩
theorem lw_p33 : lw_okq (⟨"LampboardModel", "entryOf", "(IIII)I"⟩, 41) := ⟨⟨by decide +kernel, by decide +kernel⟩, List.mem_of_getElem? (i := 1058) (by decide +kernel), List.mem_of_getElem? (i := 1430) (by decide +kernel), List.mem_of_getElem? (i := 1431) (by decide +kernel)⟩
def lw_privs_3 : List (MethodName × Nat) := [(⟨"LampboardModel", "lineValue", "(I)I"⟩, 41), (⟨"LampboardModel", "entryOf", "(IIII)I"⟩, 41)]
theorem lw_r3 : ∀ q ∈ lw_privs_3, lw_okq q := List.forall_mem_cons.mpr ⟨lw_p32, List.forall_mem_cons.mpr ⟨lw_p33, fun _ h => absurd h List.not_mem_nil⟩⟩
def lw_privs : List (MethodName × Nat) := lw_privs_1 ++ (lw_privs_2 ++ (lw_privs_3))
def lw_tbl : List Cond := k2_sels lw_privs ++ tables_1
theorem lw_privs_ok : ∀ q ∈ lw_privs, lw_okq q := by
  show ∀ q ∈ lw_privs_1 ++ (lw_privs_2 ++ (lw_privs_3)), lw_okq q
  exact List.forall_mem_append.mpr ⟨lw_r1, List.forall_mem_append.mpr ⟨lw_r2, lw_r3⟩⟩
/-- the streams that the claim lets the run draw from -/
abbrev lw_cs : List Choice := [Jvm.Choice.named "NaN.bits"]
theorem lw_bits : nanBits ∈ lw_cs := by first | decide | exact List.mem_cons_self | simp [lw_cs, nanBits]
/-! ===== BEGIN words of one list among another's, by their places ===== -/
theorem goodIn_r {big : List Cond} (ws : List Cond) (ps : List Nat) (hp : ws = ps.filterMap (fun i => big[i]?)) (h : ws.all goodWord = true) : GoodIn big ws := by
  intro w hw
  have h1 := List.all_eq_true.mp h w hw
  rw [hp] at hw
  obtain ⟨i, -, hi⟩ := List.mem_filterMap.mp hw
  have hm : w ∈ big := by first | exact List.mem_of_getElem? hi | exact List.getElem?_mem hi
  exact ⟨hm, good_of_word h1⟩
theorem goodIn_app {big a b : List Cond} (ha : GoodIn big a) (hb : GoodIn big b) : GoodIn big (a ++ b) := fun w h => (List.mem_append.mp h).elim (ha w) (hb w)
theorem goodIn_ca {big a b : List Cond} {c : Cond} (ha : GoodIn big (c :: a)) (hb : GoodIn big b) : GoodIn big (c :: (a ++ b)) := fun w h => (List.mem_cons.mp h).elim (fun e => ha w (List.mem_cons.mpr (Or.inl e))) (fun h => (List.mem_append.mp h).elim (fun h => ha w (List.mem_cons.mpr (Or.inr h))) (hb w))
theorem goodIn_sub {big ws : List Cond} (hm : ∀ w ∈ ws, w ∈ big) (h : ws.all goodWord = true) : GoodIn big ws := fun w hw => ⟨hm w hw, good_of_word (List.all_eq_true.mp h w hw)⟩
/-! ===== END ===== -/
/-! ===== BEGIN exceptions that leave a method, and their catching by the caller (launches without stack traces) ===== -/
section VXA
/-! The laws vx_back, vx_callV, vx_callS, vx_callSW, vx_throw0, vx_throwS follow proofs of the library, with one case more: JvmDerived/Free/Laws.lean (Back.of_free), Shelf42/LK1.lean (callV, callS), Shelf/KitTraced.lean (throwNew0V, throwNewS). -/
/-- where a method has thrown q: the class by its name, the cell, what was written, the world -/
def vx_T (XC : String → State → State → Prop) (st : State) (q : Addr) (t : State) (mc ms : Nat) (free : Addr → Prop) : Prop :=
  ∃ (E : String) (ce : Cell) (L : List Loc), XC E st t ∧ t.heap[q]? = some ce ∧ ce.vm = .none ∧ st.vm.findClass E = some ce.cls ∧ st.WarmedH t.vm ∧ st.sameButNew ({ t with vm := st.vm } : State) L mc ms ∧ ∀ z ∈ L, free z.base
def vx_Q (Qc : Array Value → State → Outcome → State → Prop) (XC : String → State → State → Prop) (mc ms : Nat) (free : Addr → Prop) : Array Value → State → Outcome → State → Prop := fun a st o t =>
  (Qc a st o t ∧ ∃ L, FrameEnd st o t L mc ms ∧ ∀ q ∈ L, free q.base) ∨ ∃ q, o = .threw q ∧ vx_T XC st q t mc ms free
/-- a callee that returns or throws -/
def vx_Met (l : Launch) (y : MethodName) (ws : List Cond) (rm : Room) (Pc : Array Value → State → Prop) (Qc : Array Value → State → Outcome → State → Prop) (XC : String → State → State → Prop) (mc ms : Nat) (free : Addr → Prop) : Prop :=
  MetFree l y (headSpec ws rm) Pc (fun _ _ _ _ _ => True) (vx_Q Qc XC mc ms free)
def vx_Post (XC : String → State → State → Prop) (mc ms : Nat) (free : Addr → Prop) : Pt → Array Value → Addr → Pt → Prop := fun A a q B =>
  ∃ (g : JFrame) (mk : MethodId) (t : State) (L : List Loc) (E : String) (ce : Cell), B.U.heap = t.heap ∧ B.U.vm = t.vm ∧ XC E (A.U.calling g mk a) t ∧ t.heap[q]? = some ce ∧ ce.vm = .none ∧ A.U.vm.findClass E = some ce.cls ∧ B.locs = A.locs ++ L ∧ (∀ z ∈ L, free z.base) ∧ B.cells = A.cells + mc ∧ B.slots = A.slots + ms
def vx_Back (l : Launch) (R : Room) (p : Program) (e : Env) (below : List Frame) (s : State) (sargs : Array Value) (y : MethodName) (len W9 : Nat)
    (Pre : Pt → Array Value → Prop) (Post : Pt → Array Value → Option Value → Pt → Prop) (PostX : Pt → Array Value → Addr → Pt → Prop) : Prop :=
  ∀ (m : MethodId) (meth : Method) (c : Code) (A : Pt) (g : JFrame) (ig : Instr) (mk : MethodId) (a : Array Value),
    Stand p l e R s m sargs below meth c A.U A.locs A.cells A.slots → g.method = m → g.locals.size = c.maxLocals → decode c.code g.pc = .ok (ig, len) →
    2 * g.monitorRoom + (g.stack.map fun v => v.category).sum ≤ W9 → A.U.methodNamed? y = some mk → Pre A a →
    (∃ (v : Option Value) (B : Pt), Stand p l e R s m sargs below meth c B.U B.locs B.cells B.slots ∧ Post A a v B ∧
      Steps p.tables e below (doInvoke e (A.U.setTop g) [] mk a).1 (B.U.setTop { g with pc := g.pc + len, stack := v.toList ++ g.stack })) ∨
    (∃ (q : Addr) (B : Pt), Stand p l e R s m sargs below meth c B.U B.locs B.cells B.slots ∧ PostX A a q B ∧
      Steps p.tables e below (doInvoke e (A.U.setTop g) [] mk a).1 ((B.U.setTop g).pushFrame (.throwing q)))
section Payer
variable {l : Launch} {R : Room} {p : Program} {e : Env} {below : List Frame} {s : State} {sargs : Array Value} {y : MethodName} {len W9 : Nat}
theorem vx_back {ws : List Cond} {rm : Room} {Pc : Array Value → State → Prop} {Qc : Array Value → State → Outcome → State → Prop} {XC : String → State → State → Prop} {mc ms : Nat} {free : Addr → Prop} {bytes : ByteArray} {maxL : Nat} {ret : Option FieldType}
    (hM : vx_Met l y ws rm Pc Qc XC mc ms free) (hblind : FrameBlind Pc) (hrc : rm.cells = mc) (hrs : rm.slots = ms)
    (hframes : rm.frames + 1 ≤ R.frames) (hlocals : W9 + (maxL + 11) + rm.locals ≤ R.locals)
    (hws : ∀ w ∈ ws, ∀ a' U, s.WarmedH U.vm → w.before a' U = true) (hcode : Cond.code y bytes maxL ret ∈ ws) (hinit : ∀ a' U, s.WarmedH U.vm → (Cond.initialized y.cls).before a' U = true) :
    vx_Back l R p e below s sargs y len W9 (PreOf R mc ms Pc) (PostOf Qc mc ms free) (vx_Post XC mc ms free) := by
  intro m meth c A g ig mk a X hg hsize hdg hW hn hp
  have h1 : (headSpec ws rm).pre.before a A.U = true := atoms_intro fun w hw => hws w hw _ _ X.warmed
  have h2 : (Cond.code y bytes maxL ret).before a A.U = true := hws _ hcode _ _ X.warmed
  have h3 : (Cond.initialized y.cls).before a A.U = true := hinit _ _ X.warmed
  have h4 : A.cells + (headSpec ws rm).room.cells ≤ R.cells := by rw [show (headSpec ws rm).room.cells = mc from hrc]; exact hp.1
  have h5 : A.slots + (headSpec ws rm).room.slots ≤ R.slots := by rw [show (headSpec ws rm).room.slots = ms from hrs]; exact hp.2.1
  have hPc : Pc a (A.U.calling g mk a) := hblind _ _ _ _ hp.2.2
  obtain ⟨U, Ls, c0, s0⟩ := A
  dsimp only [Pt.U, Pt.locs, Pt.cells, Pt.slots] at h1 h2 h3 h4 h5 X hn hPc ⊢
  obtain ⟨methY, cY, hmY, hcY, -, hlY, -, -, -, -⟩ := Cond.code_spec hn h2
  obtain ⟨kY, hkY, -⟩ := className_of_methodNamed hn
  have hinitY : kY.init = .initialized := Cond.initialized_spec (findClass_of_methodNamed hn) hkY h3
  have h : At U g.method c below := by rw [hg]; exact X.here
  have hlocals9 : W9 + (maxL + 11) + (headSpec ws rm).room.locals ≤ R.locals := hlocals
  have happ : (headSpec ws rm).appliesLoose y e.platform (U.calling g mk a) = true :=
    Spec.appliesLoose_calling (g := g) h hdg hn hkY hinitY
      (X.room_calling (g := g) (R' := (headSpec ws rm).room) hsize hmY hcY hframes (by rw [hlY]; omega) h4 h5) h1
  obtain ⟨mid, hmid⟩ := h.above
  have hfr : (U.setTop g).frames = (.java g :: mid) ++ below := by rw [State.frames_setTop' g h.top, hmid]; rfl
  obtain ⟨o, s₂, hsteps, -, hend, hq⟩ := Steps.callFree hM p X.admits X.cas X.clock (acts := []) hfr happ hPc trivial
  have hq' : vx_Q Qc XC mc ms free a (U.calling g mk a) o s₂ := hq
  rw [State.frames_setTop' g h.top] at hend
  obtain ⟨g₀, hg0⟩ := Option.isSome_iff_exists.mp h.top
  obtain ⟨r, hr⟩ := State.topJava?_eq_some.mp hg0
  have hr' : (({ U with heap := s₂.heap, slotsUsed := s₂.slotsUsed } : State).setVm s₂.vm).frames = .java g₀ :: r := hr
  rcases hq' with ⟨hqc, L, hfe, hL⟩ | ⟨q, rfl, E, ce, L, hx, hce, hcv, hcl, hW₂, hsm, hL⟩
  · obtain ⟨⟨v, rfl⟩, hW₂, e2, q2, q3, q4, q5, q6⟩ := id hfe
    have e3 : s₂ = ({ (U.calling g mk a).setFrames s₂.frames with heap := s₂.heap, slotsUsed := s₂.slotsUsed } : State).setVm s₂.vm := by
      have : s₂ = ({ s₂ with vm := (U.calling g mk a).vm } : State).setVm s₂.vm := rfl
      rw [e2] at this
      exact this
    obtain ⟨c₂, i₂, len₂, hc₂, hd₂, hf₂⟩ := hend
    have hW' : U.WarmedH s₂.vm := hW₂
    have hcc : c₂ = c := by
      have h1 : s₂.code? g.method = U.code? g.method := by
        rw [State.code?_eq, State.code?_eq, hW'.alike.method?]
      exact Option.some.inj (hc₂.symm.trans (h1.trans h.code))
    subst hcc
    have hlen : len₂ = len := by rw [hdg] at hd₂; cases hd₂; rfl
    subst hlen
    have hs₂ : s₂ = (({ U with heap := s₂.heap, slotsUsed := s₂.slotsUsed } : State).setVm s₂.vm).setTop { g with pc := g.pc + len₂, stack := v.toList ++ g.stack } := by
      refine e3.trans ?_
      rw [hf₂, State.calling_eq h.top, State.setFrames_setFrames, State.setTop_of_frames _ hr', hr]
      rfl
    have hsame : U.sameButNew ({ U with heap := s₂.heap, slotsUsed := s₂.slotsUsed } : State) L mc ms := by
      refine ⟨?_, q2, q3, q4, q5, q6⟩
      obtain ⟨t, ht, -⟩ := State.frames_cons hr
      show ({ U with heap := s₂.heap, slotsUsed := s₂.slotsUsed } : State) = { U.setFrames U.frames with heap := s₂.heap, slotsUsed := s₂.slotsUsed }
      rw [State.setFrames_self ht]
    subst hg
    refine Or.inl ⟨v, ⟨(({ U with heap := s₂.heap, slotsUsed := s₂.slotsUsed } : State).setVm s₂.vm), Ls ++ L, c0 + mc, s0 + ms⟩,
      ⟨X.admits, X.cas, X.clock, X.frames, X.room, X.hears, X.method, X.code, (X.here.setHeapUsed s₂.heap s₂.slotsUsed).setVm hW'.alike, X.tail, State.WarmedH.trans X.warmed hW', X.limits, X.bytes, X.same.trans (hsame.setVm s.vm)⟩,
      ⟨g, mk, s₂, L, rfl, rfl, hqc, rfl, hL, rfl, rfl⟩, ?_⟩
    show Steps p.tables e below _ ((({ U with heap := s₂.heap, slotsUsed := s₂.slotsUsed } : State).setVm s₂.vm).setTop { g with pc := g.pc + len₂, stack := v.toList ++ g.stack })
    rw [← hs₂]
    exact hsteps
  · obtain ⟨e2, q2, q3, q4, q5, q6⟩ := id hsm
    have e3 : s₂ = ({ (U.calling g mk a).setFrames s₂.frames with heap := s₂.heap, slotsUsed := s₂.slotsUsed } : State).setVm s₂.vm := by
      have : s₂ = ({ s₂ with vm := (U.calling g mk a).vm } : State).setVm s₂.vm := rfl
      rw [e2] at this
      exact this
    have hf₂ : s₂.frames = .throwing q :: .java g :: U.frames.tail := hend
    have hW' : U.WarmedH s₂.vm := hW₂
    have hs₂ : s₂ = ((({ U with heap := s₂.heap, slotsUsed := s₂.slotsUsed } : State).setVm s₂.vm).setTop g).pushFrame (.throwing q) := by
      refine e3.trans ?_
      rw [hf₂, State.calling_eq h.top, State.setFrames_setFrames, State.pushFrame, State.frames_setTop _ hr', State.setTop_of_frames _ hr', State.setFrames_setFrames, hr]
      rfl
    have hsame : U.sameButNew ({ U with heap := s₂.heap, slotsUsed := s₂.slotsUsed } : State) L mc ms := by
      refine ⟨?_, q2, q3, q4, q5, q6⟩
      obtain ⟨t, ht, -⟩ := State.frames_cons hr
      show ({ U with heap := s₂.heap, slotsUsed := s₂.slotsUsed } : State) = { U.setFrames U.frames with heap := s₂.heap, slotsUsed := s₂.slotsUsed }
      rw [State.setFrames_self ht]
    subst hg
    refine Or.inr ⟨q, ⟨(({ U with heap := s₂.heap, slotsUsed := s₂.slotsUsed } : State).setVm s₂.vm), Ls ++ L, c0 + mc, s0 + ms⟩,
      ⟨X.admits, X.cas, X.clock, X.frames, X.room, X.hears, X.method, X.code, (X.here.setHeapUsed s₂.heap s₂.slotsUsed).setVm hW'.alike, X.tail, State.WarmedH.trans X.warmed hW', X.limits, X.bytes, X.same.trans (hsame.setVm s.vm)⟩,
      ⟨g, mk, s₂, L, E, ce, rfl, rfl, hx, hce, hcv, hcl, rfl, hL, rfl, rfl⟩, ?_⟩
    show Steps p.tables e below _ (((({ U with heap := s₂.heap, slotsUsed := s₂.slotsUsed } : State).setVm s₂.vm).setTop g).pushFrame (.throwing q))
    rw [← hs₂]
    exact hsteps
end Payer
section Calls
variable {p : Program} {l : Launch} {e : Env} {R : Room} {s : State} {m : MethodId} {args : Array Value} {below : List Frame} {meth : Method} {c : Code} {T : State} {locs : List Loc} {cells slots : Nat}
theorem vx_callV (X : Stand p l e R s m args below meth c T locs cells slots) (hexec : p.tables.exec = Jvm.exec) {own C : String} {index : Nat} {y : MethodName} {bytes : ByteArray} {maxL : Nat} {ret : Option FieldType}
    (hown : s.vm.findClass own = some m.cls) (hlink : (Cond.methodLink own index y).before args s = true) (hinst : (Cond.instanceMethod y).before args s = true) (hsel : (Cond.selects C y y).before args s = true)
    (hcode : (Cond.code y bytes maxL ret).before args s = true) (hy : y.cls ≠ "java/lang/invoke/MethodHandle" ∧ y.cls ≠ "java/lang/invoke/VarHandle")
    {W9 : Nat} {Pre : Pt → Array Value → Prop} {Post : Pt → Array Value → Option Value → Pt → Prop} {PostX : Pt → Array Value → Addr → Pt → Prop} (hK : vx_Back l R p e below s args y 3 W9 Pre Post PostX)
    {b : Addr} {cellB : Cell} (hcell : T.heap[b]? = some cellB) (hobj : cellB.vm.isStatics = false) (hcls : s.vm.findClass C = some cellB.cls)
    {g : JFrame} (hg : g.method = m) (hsize : g.locals.size = c.maxLocals) {argsL rest : List Value} (hlen : ∀ sig, parseMethodDescriptor y.desc = some sig → argsL.length = sig.parameters.length)
    (hstack : g.stack = argsL.reverse ++ .ref b :: rest) (hW : 2 * g.monitorRoom + (rest.map fun v => v.category).sum ≤ W9) (hdg : decode c.code g.pc = .ok (.invokevirtual index, 3))
    (hpre : ∀ vm₁, s.WarmedH vm₁ → Pre ⟨T.setVm vm₁, locs, cells, slots⟩ (Value.ref b :: argsL).toArray) :
    (∃ (v : Option Value) (vm₁ : Vm) (B : Pt), s.WarmedH vm₁ ∧ Stand p l e R s m args below meth c B.U B.locs B.cells B.slots ∧ Post ⟨T.setVm vm₁, locs, cells, slots⟩ (Value.ref b :: argsL).toArray v B ∧
      ∀ target, Steps p.tables e below (B.U.setTop { g with pc := g.pc + 3, stack := v.toList ++ rest }) target → Steps p.tables e below (T.setTop g) target) ∨
    (∃ (q : Addr) (vm₁ : Vm) (B : Pt), s.WarmedH vm₁ ∧ Stand p l e R s m args below meth c B.U B.locs B.cells B.slots ∧ PostX ⟨T.setVm vm₁, locs, cells, slots⟩ (Value.ref b :: argsL).toArray q B ∧
      Steps p.tables e below (T.setTop g) ((B.U.setTop { g with stack := rest }).pushFrame (.throwing q))) := by
  obtain ⟨mk, methM, hnamed, hmethM, hstM, habM⟩ := Cond.instanceMethod_spec hinst
  obtain ⟨methM', cM, hmethM', -, -, -, -, -, -, hsigM⟩ := Cond.code_spec hnamed hcode
  cases hmethM.symm.trans hmethM'
  obtain ⟨c2, r2, m2, q1, q2, q3, q4, kP, hkP, hkPi⟩ := Cond.selects_spec hsel
  cases hcls.symm.trans q1
  cases (State.methodFound?_of_named hnamed hy).symm.trans q2
  cases hnamed.symm.trans q3
  have hselP : selectMethod e.platform s.vm cellB.cls mk = .method mk := by rw [Launch.admits_selectMethod X.admits]; exact q4
  obtain ⟨vm₁, X₁, hstep₁⟩ := X.invokevirtual hexec hown hlink hnamed hmethM hstM hkP hkPi hy (a := b) (cell := cellB) hcell
    (fun z h => by rw [h] at hobj; cases hobj) hselP hmethM habM hkP hkPi (g := g) hg (argsL := argsL) (rest := rest) (hlen _ hsigM) hstack hdg
  rcases hK m meth c ⟨T.setVm vm₁, locs, cells, slots⟩ { g with stack := rest } (.invokevirtual index) mk (Value.ref b :: argsL).toArray X₁ hg hsize hdg hW (X₁.named hnamed) (hpre vm₁ X₁.warmed) with ⟨v, B, X', hpost, hsteps⟩ | ⟨q, B, X', hpost, hsteps⟩
  · exact Or.inl ⟨v, vm₁, B, X₁.warmed, X', hpost, fun target h => hstep₁ _ fun acts => by rw [doInvoke_state]; exact hsteps.trans h⟩
  · exact Or.inr ⟨q, vm₁, B, X₁.warmed, X', hpost, hstep₁ _ fun acts => by rw [doInvoke_state]; exact hsteps⟩
theorem vx_callS (X : Stand p l e R s m args below meth c T locs cells slots) (hexec : p.tables.exec = Jvm.exec) {own : String} {index : Nat} {y : MethodName} {bytes : ByteArray} {maxL : Nat} {ret : Option FieldType}
    (hown : s.vm.findClass own = some m.cls) (hlink : (Cond.methodLink own index y).before args s = true) (hstat : (Cond.static y).before args s = true) (hinit : (Cond.initialized y.cls).before args s = true)
    (hcode : (Cond.code y bytes maxL ret).before args s = true) (hy : y.cls ≠ "java/lang/invoke/MethodHandle" ∧ y.cls ≠ "java/lang/invoke/VarHandle")
    {W9 : Nat} {Pre : Pt → Array Value → Prop} {Post : Pt → Array Value → Option Value → Pt → Prop} {PostX : Pt → Array Value → Addr → Pt → Prop} (hK : vx_Back l R p e below s args y 3 W9 Pre Post PostX)
    {g : JFrame} (hg : g.method = m) (hsize : g.locals.size = c.maxLocals) {argsL rest : List Value} (hlen : ∀ sig, parseMethodDescriptor y.desc = some sig → argsL.length = sig.parameters.length)
    (hstack : g.stack = argsL.reverse ++ rest) (hW : 2 * g.monitorRoom + (rest.map fun v => v.category).sum ≤ W9) (hdg : decode c.code g.pc = .ok (.invokestatic index, 3))
    (hpre : ∀ vm₁, s.WarmedH vm₁ → Pre ⟨T.setVm vm₁, locs, cells, slots⟩ argsL.toArray) :
    (∃ (v : Option Value) (vm₁ : Vm) (B : Pt), s.WarmedH vm₁ ∧ Stand p l e R s m args below meth c B.U B.locs B.cells B.slots ∧ Post ⟨T.setVm vm₁, locs, cells, slots⟩ argsL.toArray v B ∧
      ∀ target, Steps p.tables e below (B.U.setTop { g with pc := g.pc + 3, stack := v.toList ++ rest }) target → Steps p.tables e below (T.setTop g) target) ∨
    (∃ (q : Addr) (vm₁ : Vm) (B : Pt), s.WarmedH vm₁ ∧ Stand p l e R s m args below meth c B.U B.locs B.cells B.slots ∧ PostX ⟨T.setVm vm₁, locs, cells, slots⟩ argsL.toArray q B ∧
      Steps p.tables e below (T.setTop g) ((B.U.setTop { g with stack := rest }).pushFrame (.throwing q))) := by
  obtain ⟨mk, hnamed⟩ := Cond.code_named hcode
  obtain ⟨methM, cM, hmethM, -, -, -, -, -, -, hsigM⟩ := Cond.code_spec hnamed hcode
  have hstatic : methM.isStatic = true := Cond.static_spec hnamed hmethM hstat
  obtain ⟨kP, hkP, -⟩ := className_of_methodNamed hnamed
  have hinitP : kP.init = .initialized := Cond.initialized_spec (findClass_of_methodNamed hnamed) hkP hinit
  obtain ⟨vm₁, X₁, hstep₁⟩ := X.invokestatic hexec hown hlink hnamed hmethM hstatic hkP hinitP hy (g := g) hg (argsL := argsL) (rest := rest) (hlen _ hsigM) hstack hdg
  rcases hK m meth c ⟨T.setVm vm₁, locs, cells, slots⟩ { g with stack := rest } (.invokestatic index) mk argsL.toArray X₁ hg hsize hdg hW (X₁.named hnamed) (hpre vm₁ X₁.warmed) with ⟨v, B, X', hpost, hsteps⟩ | ⟨q, B, X', hpost, hsteps⟩
  · exact Or.inl ⟨v, vm₁, B, X₁.warmed, X', hpost, fun target h => hstep₁ _ fun acts => by rw [doInvoke_state]; exact hsteps.trans h⟩
  · exact Or.inr ⟨q, vm₁, B, X₁.warmed, X', hpost, hstep₁ _ fun acts => by rw [doInvoke_state]; exact hsteps⟩
end Calls
theorem vx_cls {s : State} {T : State} {vm₁ : Vm} {E : String} {k : ClassId} (hW : s.WarmedH vm₁) (h : (T.setVm vm₁).vm.findClass E = some k) : s.vm.findClass E = some k := by
  have h1 : vm₁.findClass E = some k := h
  rw [hW.alike.findClass] at h1
  exact h1
/-- the method's frame g, with q thrown over it -/
def vx_W (p : Program) (l : Launch) (e : Env) (R : Room) (s : State) (m : MethodId) (args : Array Value) (below : List Frame) (meth : Method) (c : Code) (H : Heap) (locs : List Loc) (cells slots : Nat) (Q : State → Prop) (g : JFrame) (q : Addr) : Prop :=
  ∀ T : State, T.heap = H → Stand p l e R s m args below meth c T locs cells slots → ∃ t, Steps p.tables e below ((T.setTop g).pushFrame (.throwing q)) t ∧ Q t
def vx_Run (p : Program) (l : Launch) (e : Env) (R : Room) (s : State) (m : MethodId) (args : Array Value) (below : List Frame) (meth : Method) (c : Code) (H : Heap) (locs : List Loc) (cells slots mc ms : Nat) (g : JFrame) (rest : List Value) (Qa : State → Outcome → State → Prop) (XC : String → State → State → Prop) (free : Addr → Prop) : Prop :=
  ∀ T : State, T.heap = H → Stand p l e R s m args below meth c T locs cells slots →
    (∃ (v : Option Value) (st₀ t T' : State) (L : List Loc), st₀.heap = H ∧ Stand p l e R s m args below meth c T' (locs ++ L) (cells + mc) (slots + ms) ∧ (∀ q ∈ L, free q.base) ∧ T'.heap = t.heap ∧ T'.vm = t.vm ∧ Qa st₀ (.returned v) t ∧
      Goes p e below T g T' { g with pc := g.pc + 3, stack := v.toList ++ rest }) ∨
    (∃ (q : Addr) (st₀ t T' : State) (L : List Loc) (E : String) (ce : Cell), st₀.heap = H ∧ Stand p l e R s m args below meth c T' (locs ++ L) (cells + mc) (slots + ms) ∧ (∀ z ∈ L, free z.base) ∧ T'.heap = t.heap ∧ T'.vm = t.vm ∧ XC E st₀ t ∧ t.heap[q]? = some ce ∧ ce.vm = .none ∧ s.vm.findClass E = some ce.cls ∧
      Steps p.tables e below (T.setTop g) ((T'.setTop { g with stack := rest }).pushFrame (.throwing q)))
def vx_X {S : Type} (px : S → Prop) (B : String → S → State → Prop) (A : Nat → Prop) : String → State → State → Prop := fun E st t => ∃ u : S, px u ∧ B E u t ∧ va_F A st t
section Runs
variable {p : Program} {l : Launch} {e : Env} {R : Room} {s : State} {m : MethodId} {args : Array Value} {below : List Frame} {meth : Method} {c : Code} {H : Heap} {locs : List Loc} {cells slots : Nat}
variable {y : MethodName} {bytes cc : ByteArray} {maxL nL mc ms n index : Nat} {ret : Option FieldType} {ws : List Cond} {rm : Room} {Pc : Array Value → State → Prop} {Qc : Array Value → State → Outcome → State → Prop} {XC : String → State → State → Prop} {free : Addr → Prop} {Ts : List Cond} {own C : String} {b : Addr} {As rest : List Value} {g : JFrame}
theorem vx_callBack (cb : CallB R s args own index y bytes maxL ret ws rm mc ms n) (hM : vx_Met l y ws rm Pc Qc XC mc ms free) (hbl : FrameBlind Pc) : vx_Back l R p e below s args y 3 8 (PreOf R mc ms Pc) (PostOf Qc mc ms free) (vx_Post XC mc ms free) := by
  obtain ⟨hrc, hrs, hfr, hlo, hws, hcw, -, hini, -⟩ := cb
  exact vx_back (bytes := bytes) (maxL := maxL) (ret := ret) hM hbl hrc hrs hfr hlo hws hcw (fun a' U hW => word_at hW (Or.inl (by first | rfl | simp [Cond.onTables, Cond.keeps, Cond.steady])) hini)
theorem vx_runV (S : CallFix p m c cc nL s args Ts own) (hM : vx_Met l y ws rm Pc Qc XC mc ms free) (cw : CallW R s args own C index y bytes maxL ret ws rm mc ms n) (hp : PreV s H C b Pc As)
    (hg : g.method = m) (hn : As.length = n) (hsize : g.locals.size = nL) (hstack : g.stack = As.reverse ++ .ref b :: rest) (hW : 2 * g.monitorRoom + (rest.map fun v => v.category).sum ≤ 8) (hdg : decode cc g.pc = .ok (.invokevirtual index, 3)) (hf : cells + mc ≤ R.cells ∧ slots + ms ≤ R.slots) :
    vx_Run p l e R s m args below meth c H locs cells slots mc ms g rest (Qc (Value.ref b :: As).toArray) XC free := by
  have hK : vx_Back l R p e below s args y 3 8 (PreOf R mc ms Pc) (PostOf Qc mc ms free) (vx_Post XC mc ms free) := vx_callBack cw.1 hM hp.1
  obtain ⟨⟨-, -, -, -, -, -, hcode, -, hy, hlen, hl⟩, hin, hse⟩ := cw
  obtain ⟨hx, hb, hml, ho, -⟩ := S
  obtain ⟨-, ⟨cellB, hcB, hoB, hclB⟩, hPc⟩ := hp
  intro T hT X
  rcases vx_callV X hx (C := C) (bytes := bytes) (maxL := maxL) (ret := ret) ho hl hin hse hcode hy hK (by rw [hT]; exact hcB) hoB hclB hg (hsize.trans hml.symm) (argsL := As) (rest := rest) (fun sig h => hn.trans (hlen sig h)) hstack hW (by rw [hb]; exact hdg)
    (fun vm₁ hW₁ => ⟨hf.1, hf.2, hPc (T.setVm vm₁) hT hW₁⟩) with ⟨v, vm₁, ⟨U', l2, c2, s2⟩, hW₁, X', ⟨g', mk, t, L, e1, e2, hq, h1, hL, h2, h3⟩, st⟩ | ⟨q, vm₁, ⟨U', l2, c2, s2⟩, hW₁, X', ⟨g', mk, t, L, E, ce, e1, e2, hq, hce, hcv, hcl, h1, hL, h2, h3⟩, st⟩
  · dsimp only [Pt.U, Pt.locs, Pt.cells, Pt.slots] at X' e1 e2 h1 h2 h3 st
    subst h1; subst h2; subst h3
    exact Or.inl ⟨v, (T.setVm vm₁).calling g' mk (Value.ref b :: As).toArray, t, U', L, hT, X', hL, e1, e2, hq, st⟩
  · dsimp only [Pt.U, Pt.locs, Pt.cells, Pt.slots] at X' e1 e2 h1 h2 h3 st hcl
    subst h1; subst h2; subst h3
    exact Or.inr ⟨q, (T.setVm vm₁).calling g' mk (Value.ref b :: As).toArray, t, U', L, E, ce, hT, X', hL, e1, e2, hq, hce, hcv, vx_cls hW₁ hcl, st⟩
theorem vx_runS (S : CallFix p m c cc nL s args Ts own) (hM : vx_Met l y ws rm Pc Qc XC mc ms free) (cw : CallB R s args own index y bytes maxL ret ws rm mc ms n ∧ (Cond.static y).before args s = true) (hp : PreS s H Pc As)
    (hg : g.method = m) (hn : As.length = n) (hsize : g.locals.size = nL) (hstack : g.stack = As.reverse ++ rest) (hW : 2 * g.monitorRoom + (rest.map fun v => v.category).sum ≤ 8) (hdg : decode cc g.pc = .ok (.invokestatic index, 3)) (hf : cells + mc ≤ R.cells ∧ slots + ms ≤ R.slots) :
    vx_Run p l e R s m args below meth c H locs cells slots mc ms g rest (Qc As.toArray) XC free := by
  have hK : vx_Back l R p e below s args y 3 8 (PreOf R mc ms Pc) (PostOf Qc mc ms free) (vx_Post XC mc ms free) := vx_callBack cw.1 hM hp.1
  obtain ⟨⟨-, -, -, -, -, -, hcode, hini, hy, hlen, hl⟩, hstt⟩ := cw
  obtain ⟨hx, hb, hml, ho, -⟩ := S
  intro T hT X
  rcases vx_callS X hx (bytes := bytes) (maxL := maxL) (ret := ret) ho hl hstt hini hcode hy hK hg (hsize.trans hml.symm) (argsL := As) (rest := rest) (fun sig h => hn.trans (hlen sig h)) hstack hW (by rw [hb]; exact hdg)
    (fun vm₁ hW₁ => ⟨hf.1, hf.2, hp.2 (T.setVm vm₁) hT hW₁⟩) with ⟨v, vm₁, ⟨U', l2, c2, s2⟩, hW₁, X', ⟨g', mk, t, L, e1, e2, hq, h1, hL, h2, h3⟩, st⟩ | ⟨q, vm₁, ⟨U', l2, c2, s2⟩, hW₁, X', ⟨g', mk, t, L, E, ce, e1, e2, hq, hce, hcv, hcl, h1, hL, h2, h3⟩, st⟩
  · dsimp only [Pt.U, Pt.locs, Pt.cells, Pt.slots] at X' e1 e2 h1 h2 h3 st
    subst h1; subst h2; subst h3
    exact Or.inl ⟨v, (T.setVm vm₁).calling g' mk As.toArray, t, U', L, hT, X', hL, e1, e2, hq, st⟩
  · dsimp only [Pt.U, Pt.locs, Pt.cells, Pt.slots] at X' e1 e2 h1 h2 h3 st hcl
    subst h1; subst h2; subst h3
    exact Or.inr ⟨q, (T.setVm vm₁).calling g' mk As.toArray, t, U', L, E, ce, hT, X', hL, e1, e2, hq, hce, hcv, vx_cls hW₁ hcl, st⟩
end Runs
section Rows
variable {p : Program} {l : Launch} {e : Env} {R : Room} {s : State} {m : MethodId} {args : Array Value} {below : List Frame} {meth : Method} {c : Code} {H : Heap} {locs : List Loc} {cells slots : Nat} {Q : State → Prop}
variable {mc ms : Nat} {free : Addr → Prop} {A0 A1 : Nat → Prop} {H0 : Heap} {a : Array Value} {pc : Nat} {ls : Array Slot} {st0 rest : List Value}
theorem vx_keep {st₀ t T' : State} {L : List Loc} (h0 : st₀.heap = H) (e1 : T'.heap = t.heap) (hS : va_S A0 H0 H locs) (hA : ∀ q, q < H.size → A1 q → A0 q) (hf : ∀ q, free q → A0 q) (hL : ∀ q ∈ L, free q.base) (hF : va_F A1 st₀ t) :
    H.size ≤ T'.heap.size ∧ (∀ q : Nat, q < H.size → ¬ A1 q → T'.heap[q]? = H[q]?) ∧ va_S A0 H0 T'.heap (locs ++ L) := by
  obtain ⟨hz, hk⟩ := hF
  rw [h0] at hz hk
  exact ⟨by rw [e1]; exact hz, fun q h1 h2 => by rw [e1]; exact hk q h1 h2,
    ⟨Nat.le_trans hS.1 (by rw [e1]; exact hz), fun q h1 h2 => by rw [e1, hk q (Nat.lt_of_lt_of_le h1 hS.1) (fun z => h2 (hA q (Nat.lt_of_lt_of_le h1 hS.1) z))]; exact hS.2.1 q h1 h2, fun q hq => by
      rcases List.mem_append.mp hq with h | h
      · exact hS.2.2 q h
      · exact hf _ (hL q h)⟩⟩
theorem vx_calli {S SX : Type} {post : Int32 → S → Prop} {px : SX → Prop} {B : S → State → Prop} {BX : String → SX → State → Prop} {AX : Nat → Prop} (hr : vx_Run p l e R s m args below meth c H locs cells slots mc ms (F0 m pc ls st0) rest (va_Qi post B A1 a) (vx_X px BX AX) free) (hS : va_S A0 H0 H locs) (hA : ∀ q, q < H.size → A1 q → A0 q) (hf : ∀ q, free q → A0 q) (hAX : ∀ q, q < H.size → AX q → A0 q)
    (kx : ∀ (E : String) (ce : Cell) (q9 : Addr) (u : SX) (t : State) (H1 : Heap) (locs1 : List Loc), t.heap = H1 → s.vm.Alike t.vm → px u → BX E u t → H.size ≤ H1.size → (∀ q : Nat, q < H.size → ¬ AX q → H1[q]? = H[q]?) → va_S A0 H0 H1 locs1 → H1[q9]? = some ce → ce.vm = .none → s.vm.findClass E = some ce.cls → vx_W p l e R s m args below meth c H1 locs1 (cells + mc) (slots + ms) Q (F0 m pc ls rest) q9)
    (kk : ∀ (r : Int32) (u : S) (t : State) (H1 : Heap) (locs1 : List Loc), t.heap = H1 → s.vm.Alike t.vm → post r u → B u t → H.size ≤ H1.size → (∀ q : Nat, q < H.size → ¬ A1 q → H1[q]? = H[q]?) → va_S A0 H0 H1 locs1 → W p l e R s m args below meth c H1 locs1 (cells + mc) (slots + ms) Q (F0 m (pc + 3) ls (.int r :: rest))) : W p l e R s m args below meth c H locs cells slots Q (F0 m pc ls st0) := by
  intro T hT X
  rcases hr T hT X with ⟨v, st₀, t, T', L, h0, X', hL, e1, e2, ⟨⟨r, u, hv, hp, hb⟩, hF⟩, st⟩ | ⟨q, st₀, t, T', L, E, ce, h0, X', hL, e1, e2, ⟨u, hp, hb, hF⟩, hce, hcv, hcl, st⟩
  · cases hv
    obtain ⟨k1, k2, k3⟩ := vx_keep h0 e1 hS hA hf hL hF
    obtain ⟨t2, a1, b1⟩ := kk r u t T'.heap (locs ++ L) e1.symm (by rw [← e2]; exact X'.warmed.alike) hp hb k1 k2 k3 T' rfl X'
    exact ⟨t2, st t2 a1, b1⟩
  · obtain ⟨k1, k2, k3⟩ := vx_keep h0 e1 hS hAX hf hL hF
    obtain ⟨t2, a1, b1⟩ := kx E ce q u t T'.heap (locs ++ L) e1.symm (by rw [← e2]; exact X'.warmed.alike) hp hb k1 k2 k3 (by rw [e1]; exact hce) hcv hcl T' rfl X'
    exact ⟨t2, st.trans a1, b1⟩
theorem vx_calll {S SX : Type} {post : Int64 → S → Prop} {px : SX → Prop} {B : S → State → Prop} {BX : String → SX → State → Prop} {AX : Nat → Prop} (hr : vx_Run p l e R s m args below meth c H locs cells slots mc ms (F0 m pc ls st0) rest (va_Ql post B A1 a) (vx_X px BX AX) free) (hS : va_S A0 H0 H locs) (hA : ∀ q, q < H.size → A1 q → A0 q) (hf : ∀ q, free q → A0 q) (hAX : ∀ q, q < H.size → AX q → A0 q)
    (kx : ∀ (E : String) (ce : Cell) (q9 : Addr) (u : SX) (t : State) (H1 : Heap) (locs1 : List Loc), t.heap = H1 → s.vm.Alike t.vm → px u → BX E u t → H.size ≤ H1.size → (∀ q : Nat, q < H.size → ¬ AX q → H1[q]? = H[q]?) → va_S A0 H0 H1 locs1 → H1[q9]? = some ce → ce.vm = .none → s.vm.findClass E = some ce.cls → vx_W p l e R s m args below meth c H1 locs1 (cells + mc) (slots + ms) Q (F0 m pc ls rest) q9)
    (kk : ∀ (r : Int64) (u : S) (t : State) (H1 : Heap) (locs1 : List Loc), t.heap = H1 → s.vm.Alike t.vm → post r u → B u t → H.size ≤ H1.size → (∀ q : Nat, q < H.size → ¬ A1 q → H1[q]? = H[q]?) → va_S A0 H0 H1 locs1 → W p l e R s m args below meth c H1 locs1 (cells + mc) (slots + ms) Q (F0 m (pc + 3) ls (.long r :: rest))) : W p l e R s m args below meth c H locs cells slots Q (F0 m pc ls st0) := by
  intro T hT X
  rcases hr T hT X with ⟨v, st₀, t, T', L, h0, X', hL, e1, e2, ⟨⟨r, u, hv, hp, hb⟩, hF⟩, st⟩ | ⟨q, st₀, t, T', L, E, ce, h0, X', hL, e1, e2, ⟨u, hp, hb, hF⟩, hce, hcv, hcl, st⟩
  · cases hv
    obtain ⟨k1, k2, k3⟩ := vx_keep h0 e1 hS hA hf hL hF
    obtain ⟨t2, a1, b1⟩ := kk r u t T'.heap (locs ++ L) e1.symm (by rw [← e2]; exact X'.warmed.alike) hp hb k1 k2 k3 T' rfl X'
    exact ⟨t2, st t2 a1, b1⟩
  · obtain ⟨k1, k2, k3⟩ := vx_keep h0 e1 hS hAX hf hL hF
    obtain ⟨t2, a1, b1⟩ := kx E ce q u t T'.heap (locs ++ L) e1.symm (by rw [← e2]; exact X'.warmed.alike) hp hb k1 k2 k3 (by rw [e1]; exact hce) hcv hcl T' rfl X'
    exact ⟨t2, st.trans a1, b1⟩
theorem vx_callf {S SX : Type} {post : UInt32 → S → Prop} {px : SX → Prop} {B : S → State → Prop} {BX : String → SX → State → Prop} {AX : Nat → Prop} (hr : vx_Run p l e R s m args below meth c H locs cells slots mc ms (F0 m pc ls st0) rest (va_Qf post B A1 a) (vx_X px BX AX) free) (hS : va_S A0 H0 H locs) (hA : ∀ q, q < H.size → A1 q → A0 q) (hf : ∀ q, free q → A0 q) (hAX : ∀ q, q < H.size → AX q → A0 q)
    (kx : ∀ (E : String) (ce : Cell) (q9 : Addr) (u : SX) (t : State) (H1 : Heap) (locs1 : List Loc), t.heap = H1 → s.vm.Alike t.vm → px u → BX E u t → H.size ≤ H1.size → (∀ q : Nat, q < H.size → ¬ AX q → H1[q]? = H[q]?) → va_S A0 H0 H1 locs1 → H1[q9]? = some ce → ce.vm = .none → s.vm.findClass E = some ce.cls → vx_W p l e R s m args below meth c H1 locs1 (cells + mc) (slots + ms) Q (F0 m pc ls rest) q9)
    (kk : ∀ (r : UInt32) (u : S) (t : State) (H1 : Heap) (locs1 : List Loc), t.heap = H1 → s.vm.Alike t.vm → post r u → B u t → H.size ≤ H1.size → (∀ q : Nat, q < H.size → ¬ A1 q → H1[q]? = H[q]?) → va_S A0 H0 H1 locs1 → W p l e R s m args below meth c H1 locs1 (cells + mc) (slots + ms) Q (F0 m (pc + 3) ls (.float r :: rest))) : W p l e R s m args below meth c H locs cells slots Q (F0 m pc ls st0) := by
  intro T hT X
  rcases hr T hT X with ⟨v, st₀, t, T', L, h0, X', hL, e1, e2, ⟨⟨r, u, hv, hp, hb⟩, hF⟩, st⟩ | ⟨q, st₀, t, T', L, E, ce, h0, X', hL, e1, e2, ⟨u, hp, hb, hF⟩, hce, hcv, hcl, st⟩
  · cases hv
    obtain ⟨k1, k2, k3⟩ := vx_keep h0 e1 hS hA hf hL hF
    obtain ⟨t2, a1, b1⟩ := kk r u t T'.heap (locs ++ L) e1.symm (by rw [← e2]; exact X'.warmed.alike) hp hb k1 k2 k3 T' rfl X'
    exact ⟨t2, st t2 a1, b1⟩
  · obtain ⟨k1, k2, k3⟩ := vx_keep h0 e1 hS hAX hf hL hF
    obtain ⟨t2, a1, b1⟩ := kx E ce q u t T'.heap (locs ++ L) e1.symm (by rw [← e2]; exact X'.warmed.alike) hp hb k1 k2 k3 (by rw [e1]; exact hce) hcv hcl T' rfl X'
    exact ⟨t2, st.trans a1, b1⟩
theorem vx_calld {S SX : Type} {post : UInt64 → S → Prop} {px : SX → Prop} {B : S → State → Prop} {BX : String → SX → State → Prop} {AX : Nat → Prop} (hr : vx_Run p l e R s m args below meth c H locs cells slots mc ms (F0 m pc ls st0) rest (va_Qd post B A1 a) (vx_X px BX AX) free) (hS : va_S A0 H0 H locs) (hA : ∀ q, q < H.size → A1 q → A0 q) (hf : ∀ q, free q → A0 q) (hAX : ∀ q, q < H.size → AX q → A0 q)
    (kx : ∀ (E : String) (ce : Cell) (q9 : Addr) (u : SX) (t : State) (H1 : Heap) (locs1 : List Loc), t.heap = H1 → s.vm.Alike t.vm → px u → BX E u t → H.size ≤ H1.size → (∀ q : Nat, q < H.size → ¬ AX q → H1[q]? = H[q]?) → va_S A0 H0 H1 locs1 → H1[q9]? = some ce → ce.vm = .none → s.vm.findClass E = some ce.cls → vx_W p l e R s m args below meth c H1 locs1 (cells + mc) (slots + ms) Q (F0 m pc ls rest) q9)
    (kk : ∀ (r : UInt64) (u : S) (t : State) (H1 : Heap) (locs1 : List Loc), t.heap = H1 → s.vm.Alike t.vm → post r u → B u t → H.size ≤ H1.size → (∀ q : Nat, q < H.size → ¬ A1 q → H1[q]? = H[q]?) → va_S A0 H0 H1 locs1 → W p l e R s m args below meth c H1 locs1 (cells + mc) (slots + ms) Q (F0 m (pc + 3) ls (.double r :: rest))) : W p l e R s m args below meth c H locs cells slots Q (F0 m pc ls st0) := by
  intro T hT X
  rcases hr T hT X with ⟨v, st₀, t, T', L, h0, X', hL, e1, e2, ⟨⟨r, u, hv, hp, hb⟩, hF⟩, st⟩ | ⟨q, st₀, t, T', L, E, ce, h0, X', hL, e1, e2, ⟨u, hp, hb, hF⟩, hce, hcv, hcl, st⟩
  · cases hv
    obtain ⟨k1, k2, k3⟩ := vx_keep h0 e1 hS hA hf hL hF
    obtain ⟨t2, a1, b1⟩ := kk r u t T'.heap (locs ++ L) e1.symm (by rw [← e2]; exact X'.warmed.alike) hp hb k1 k2 k3 T' rfl X'
    exact ⟨t2, st t2 a1, b1⟩
  · obtain ⟨k1, k2, k3⟩ := vx_keep h0 e1 hS hAX hf hL hF
    obtain ⟨t2, a1, b1⟩ := kx E ce q u t T'.heap (locs ++ L) e1.symm (by rw [← e2]; exact X'.warmed.alike) hp hb k1 k2 k3 (by rw [e1]; exact hce) hcv hcl T' rfl X'
    exact ⟨t2, st.trans a1, b1⟩
theorem vx_callv {S SX : Type} {post : S → Prop} {px : SX → Prop} {B : S → State → Prop} {BX : String → SX → State → Prop} {AX : Nat → Prop} (hr : vx_Run p l e R s m args below meth c H locs cells slots mc ms (F0 m pc ls st0) rest (va_Qv post B A1 a) (vx_X px BX AX) free) (hS : va_S A0 H0 H locs) (hA : ∀ q, q < H.size → A1 q → A0 q) (hf : ∀ q, free q → A0 q) (hAX : ∀ q, q < H.size → AX q → A0 q)
    (kx : ∀ (E : String) (ce : Cell) (q9 : Addr) (u : SX) (t : State) (H1 : Heap) (locs1 : List Loc), t.heap = H1 → s.vm.Alike t.vm → px u → BX E u t → H.size ≤ H1.size → (∀ q : Nat, q < H.size → ¬ AX q → H1[q]? = H[q]?) → va_S A0 H0 H1 locs1 → H1[q9]? = some ce → ce.vm = .none → s.vm.findClass E = some ce.cls → vx_W p l e R s m args below meth c H1 locs1 (cells + mc) (slots + ms) Q (F0 m pc ls rest) q9)
    (kk : ∀ (u : S) (t : State) (H1 : Heap) (locs1 : List Loc), t.heap = H1 → s.vm.Alike t.vm → post u → B u t → H.size ≤ H1.size → (∀ q : Nat, q < H.size → ¬ A1 q → H1[q]? = H[q]?) → va_S A0 H0 H1 locs1 → W p l e R s m args below meth c H1 locs1 (cells + mc) (slots + ms) Q (F0 m (pc + 3) ls (rest))) : W p l e R s m args below meth c H locs cells slots Q (F0 m pc ls st0) := by
  intro T hT X
  rcases hr T hT X with ⟨v, st₀, t, T', L, h0, X', hL, e1, e2, ⟨⟨u, hv, hp, hb⟩, hF⟩, st⟩ | ⟨q, st₀, t, T', L, E, ce, h0, X', hL, e1, e2, ⟨u, hp, hb, hF⟩, hce, hcv, hcl, st⟩
  · cases hv
    obtain ⟨k1, k2, k3⟩ := vx_keep h0 e1 hS hA hf hL hF
    obtain ⟨t2, a1, b1⟩ := kk u t T'.heap (locs ++ L) e1.symm (by rw [← e2]; exact X'.warmed.alike) hp hb k1 k2 k3 T' rfl X'
    exact ⟨t2, st t2 a1, b1⟩
  · obtain ⟨k1, k2, k3⟩ := vx_keep h0 e1 hS hAX hf hL hF
    obtain ⟨t2, a1, b1⟩ := kx E ce q u t T'.heap (locs ++ L) e1.symm (by rw [← e2]; exact X'.warmed.alike) hp hb k1 k2 k3 (by rw [e1]; exact hce) hcv hcl T' rfl X'
    exact ⟨t2, st.trans a1, b1⟩
/-- caught by the row x of this method's table; the rows ahead don't take it -/
theorem vx_catch {own name : String} {E : String} {ce : Cell} {q : Addr} (hown : s.vm.findClass own = some m.cls) (pre : List ExceptionTableEntry) (x : ExceptionTableEntry) (suf : List ExceptionTableEntry) (hsplit : c.exceptionTable.toList = pre ++ x :: suf)
    (hpass : ∀ z ∈ pre, covers z pc = false ∨ (z.catchType ≠ 0 ∧ ∃ nm : String, (Cond.classLink own z.catchType nm).before args s = true ∧ va_Nc E nm s)) (hx : covers x pc = true) (h0 : x.catchType ≠ 0)
    (hlink : (Cond.classLink own x.catchType name).before args s = true) (hcast : (Cond.castable E name).before args s = true) (hcell : H[q]? = some ce) (hv : ce.vm = .none) (hcl : s.vm.findClass E = some ce.cls)
    (kk : W p l e R s m args below meth c H locs cells slots Q (F0 m x.handlerPc ls [.ref q])) : vx_W p l e R s m args below meth c H locs cells slots Q (F0 m pc ls rest) q := by
  intro T hT X
  have hpl : e.platform.magicAccessors = ({} : Platform).magicAccessors := by rw [X.admits.platform]
  obtain ⟨c3, c4, hc3, hc4, hasg⟩ := Cond.castable_spec hcast
  cases Option.some.inj (hc3.symm.trans hcl)
  obtain ⟨c5, hc5, hcl5⟩ := Cond.classLink_spec hown hlink e.platform hpl
  cases Option.some.inj (hc4.symm.trans hc5)
  obtain ⟨vm', X', st⟩ := X.thenCaughtThrough q (g := F0 m pc ls rest) rfl (Steps.refl _) (by rw [hT]; exact hcell) (by rw [hv]; rfl) (by obtain ⟨k9, h9, -⟩ := Vm.findClass_spec hcl; exact ⟨k9, h9⟩) pre x suf hsplit
    (fun z hz => by
      rcases hpass z hz with h | ⟨hz0, nm, hl1, hn1⟩
      · exact Or.inl h
      · obtain ⟨c6, hc6, hcl6⟩ := Cond.classLink_spec hown hl1 e.platform hpl
        obtain ⟨a8, b8, h1, h2, h3⟩ := hn1
        cases Option.some.inj (h1.symm.trans hcl)
        cases Option.some.inj (h2.symm.trans hc6)
        exact Or.inr ⟨hz0, _, hcl6, h3⟩) hx (Or.inr ⟨h0, c4, hcl5, hasg⟩)
  obtain ⟨t, a1, b1⟩ := kk (T.setVm vm') hT X'
  exact ⟨t, st.trans a1, b1⟩
end Rows
section Ends
variable {p : Program} {l : Launch} {e : Env} {R : Room} {s : State} {m : MethodId} {args : Array Value} {below : List Frame} {meth : Method} {c : Code} {H : Heap} {locs : List Loc} {cells slots : Nat} {Q : State → Prop}
variable {mc ms : Nat} {free : Addr → Prop} {A0 A1 : Nat → Prop} {H0 : Heap} {a : Array Value} {ls : Array Slot} {st0 rest : List Value}
variable {Qc : Array Value → State → Outcome → State → Prop} {XC : String → State → State → Prop}
/-- what a body that may throw owes at its end -/
def vx_MQ (below : List Frame) (Qc : Array Value → State → Outcome → State → Prop) (XC : String → State → State → Prop) (a : Array Value) (s : State) (mc ms : Nat) (free : Addr → Prop) : State → Prop := fun t =>
  ∃ o, t.status = .running ∧ Ended t below o ∧ vx_Q Qc XC mc ms free a s o t
theorem vx_ret {g : JFrame} {mc ms : Nat} (k : W p l e R s m args below meth c H locs cells slots (MQ below Qc args s mc ms free) g) : W p l e R s m args below meth c H locs cells slots (vx_MQ below Qc XC args s mc ms free) g := by
  intro T hT X
  obtain ⟨t, a1, o, b1, b2, b3, b4⟩ := k T hT X
  exact ⟨t, a1, o, b1, b2, Or.inl ⟨b3, b4⟩⟩
/-- not caught here: it goes on to the caller -/
theorem vx_widen {g : JFrame} {q : Addr} {k n : Nat} (h1 : cells ≤ k) (h2 : slots ≤ n) (kk : vx_W p l e R s m args below meth c H locs k n Q g q) : vx_W p l e R s m args below meth c H locs cells slots Q g q := fun T hT X => kk T hT (stand_widen X h1 h2)
theorem vx_out {pc : Nat} {E : String} {ce : Cell} {q : Addr} {mc ms : Nat} (hout : ∀ x ∈ c.exceptionTable.toList, covers x pc = false) (hlocks : meth.locks = false) (hcell : H[q]? = some ce) (hv : ce.vm = .none) (hcl : s.vm.findClass E = some ce.cls)
    (hx : ∀ t : State, t.heap = H → s.vm.Alike t.vm → XC E s t) (hf : ∀ z ∈ locs, free z.base) (hc : cells ≤ mc) (hs : slots ≤ ms) :
    vx_W p l e R s m args below meth c H locs cells slots (vx_MQ below Qc XC args s mc ms free) (F0 m pc ls rest) q := by
  intro T hT X
  obtain ⟨st1, hrun, hend, hW, hsm⟩ := X.leaveThrown q (g := F0 m pc ls rest) rfl rfl rfl hout hlocks
  have hcell9 : (T.setFrames (.throwing q :: below)).heap[q]? = some ce := by
    show T.heap[q]? = some ce
    rw [hT]; exact hcell
  exact ⟨_, st1, .threw q, hrun, hend, Or.inr ⟨q, rfl, E, ce, locs, hx _ hT hW.alike, hcell9, hv, hcl, hW, hsm.mono hc hs, hf⟩⟩
theorem vx_frame {U : State} {k n : Nat} (h : s.sameButNew ({ U with vm := s.vm } : State) locs k n) : s.heap.size ≤ U.heap.size ∧ ∀ q : Nat, q < s.heap.size → (∀ z ∈ locs, z.base ≠ q) → U.heap[q]? = s.heap[q]? := by
  obtain ⟨-, h2, -, -, -, h6⟩ := h
  refine ⟨h2, fun q hq hz => ?_⟩
  obtain ⟨c9, e1, e2, e3, e4⟩ := h6 q _ (Array.getElem?_eq_getElem hq)
  have hs : c9.slots = (s.heap[q]).slots := Array.ext_getElem? fun i => e4 i fun hm => hz _ hm rfl
  have h9 : c9 = s.heap[q] := by
    rw [hs] at e2
    exact e2
  have e5 : U.heap[q]? = some c9 := e1
  rw [e5, h9, Array.getElem?_eq_getElem hq]
/-- the words of a throw but the four that speak of the heap -/
def vx_no (w : Cond) : Bool := decide (w ≠ .isRef (.static Bundle.tN "UNASSIGNED_STACK" Bundle.steD)) && decide (w ≠ .isRef (.static Bundle.tN "SUPPRESSED_SENTINEL" Bundle.listD)) && decide (w ≠ .laysStatic Bundle.tN "UNASSIGNED_STACK" Bundle.steD) && decide (w ≠ .laysStatic Bundle.tN "SUPPRESSED_SENTINEL" Bundle.listD)
def vx_at0 (own : String) (ic : Nat) (X : String) (names : List String) : List Cond := (Bundle.ownAtoms0 own ic X names).filter vx_no
def vx_atS (own : String) (ic : Nat) (X : String) (names : List String) : List Cond := (Bundle.ownAtoms own ic X names).filter vx_no
/-- a word that the tables alone decide, or a good one -/
def vx_ot (w : Cond) : Bool := w.onTables || goodWord w
theorem vx_ot_at {args a' : Array Value} {s U : State} {w : Cond} (hW : s.WarmedH U.vm) (hvm : s.vm = U.vm) (hg : vx_ot w = true) (h : w.before args s = true) : w.before a' U = true := by
  simp only [vx_ot, Bool.or_eq_true] at hg
  rcases hg with hg | hg
  · exact va_tabs hg hvm h
  · exact word_at hW (good_of_word hg) h
/-- a list's words: the good ones out of the method's own list, the others by premises of their own -/
theorem vx_hat {args : Array Value} {s : State} {L B : List Cond} (h1 : ∀ w ∈ L.filter goodWord, w.before args s = true) (h2 : ∀ w ∈ L.filter (fun w => !goodWord w), w ∈ B) (h3 : ∀ w ∈ B, w.before args s = true) : ∀ w ∈ L, w.before args s = true := by
  intro w hw
  by_cases g : goodWord w = true
  · exact h1 w (List.mem_filter.mpr ⟨hw, g⟩)
  · refine h3 w (h2 w (List.mem_filter.mpr ⟨hw, ?_⟩))
    show (!goodWord w) = true
    cases hgw : goodWord w
    · rfl
    · exact absurd hgw g
theorem vx_c {args : Array Value} {s : State} {w : Cond} {B : List Cond} (h : w.before args s = true) (t : ∀ w ∈ B, w.before args s = true) : ∀ w' ∈ w :: B, w'.before args s = true := fun w' h' => (List.mem_cons.mp h').elim (fun e => by rw [e]; exact h) (t w')
theorem vx_n {args : Array Value} {s : State} : ∀ w ∈ ([] : List Cond), w.before args s = true := fun _ h => nomatch h
theorem vx_own {args : Array Value} {s : State} {L : List Cond} (h1 : ∀ w ∈ L.filter vx_no, w.before args s = true)
    (hU : (Cond.isRef (.static Bundle.tN "UNASSIGNED_STACK" Bundle.steD)).before args s = true) (hN : (Cond.isRef (.static Bundle.tN "SUPPRESSED_SENTINEL" Bundle.listD)).before args s = true)
    (lU : (Cond.laysStatic Bundle.tN "UNASSIGNED_STACK" Bundle.steD).before args s = true) (lN : (Cond.laysStatic Bundle.tN "SUPPRESSED_SENTINEL" Bundle.listD).before args s = true) : ∀ w ∈ L, w.before args s = true := by
  intro w hw
  by_cases e1 : w = .isRef (.static Bundle.tN "UNASSIGNED_STACK" Bundle.steD)
  · rw [e1]; exact hU
  · by_cases e2 : w = .isRef (.static Bundle.tN "SUPPRESSED_SENTINEL" Bundle.listD)
    · rw [e2]; exact hN
    · by_cases e3 : w = .laysStatic Bundle.tN "UNASSIGNED_STACK" Bundle.steD
      · rw [e3]; exact lU
      · by_cases e4 : w = .laysStatic Bundle.tN "SUPPRESSED_SENTINEL" Bundle.listD
        · rw [e4]; exact lN
        · exact h1 w (List.mem_filter.mpr ⟨hw, by unfold vx_no; rw [decide_eq_true e1, decide_eq_true e2, decide_eq_true e3, decide_eq_true e4]; rfl⟩)
/-- where a static field lies, its class's statics cell in H -/
def vx_L (C n d : String) (A : Nat → Prop) (U : State) (H : Heap) : Prop := ∃ (c : ClassId) (k : Class) (i : Nat) (f : Field) (a : Nat) (cell : Cell), U.vm.findClass C = some c ∧ U.fieldFound? C n d = some (c, k, i, f) ∧ f.isStatic = true ∧ k.statics = some a ∧ H[a]? = some cell ∧ cell.vm.isStatics = true ∧ cell.cls = c ∧ f.slot < cell.slots.size ∧ k.staticTypes[f.slot]? = some f.type ∧ ¬ A a
theorem vx_L.moved {C n d : String} {A : Nat → Prop} {u U : State} {H : Heap} (hvm : u.vm.Alike U.vm) (h : vx_L C n d A u H) : vx_L C n d A U H := by
  obtain ⟨c, k, i, f, a, cell, h1, h2, h3, h4, h5, h6, h7, h8, h9, h10⟩ := h
  obtain ⟨k', hi', he⟩ := State.fieldFound?_setVm hvm h2
  exact ⟨c, k', i, f, a, cell, by rw [hvm.findClass]; exact h1, hi', h3, by rw [he]; exact h4, h5, h6, h7, h8, by rw [he]; exact h9, h10⟩
theorem vx_L.kept {C n d : String} {A : Nat → Prop} {U : State} {H H1 : Heap} (h : vx_L C n d A U H) (hq : ∀ a : Nat, a < H.size → ¬ A a → H1[a]? = H[a]?) : vx_L C n d A U H1 := by
  obtain ⟨c, k, i, f, a, cell, h1, h2, h3, h4, h5, h6, h7, h8, h9, h10⟩ := h
  exact ⟨c, k, i, f, a, cell, h1, h2, h3, h4, by rw [hq a (Array.getElem?_eq_some_iff.mp h5).1 h10]; exact h5, h6, h7, h8, h9, h10⟩
theorem vx_L.narrow {C n d : String} {A B : Nat → Prop} {U : State} {H : Heap} (h : vx_L C n d A U H) (hAB : ∀ q, B q → A q) : vx_L C n d B U H := by
  obtain ⟨c, k, i, f, a, cell, h1, h2, h3, h4, h5, h6, h7, h8, h9, h10⟩ := h
  exact ⟨c, k, i, f, a, cell, h1, h2, h3, h4, h5, h6, h7, h8, h9, fun z => h10 (hAB _ z)⟩
theorem vx_L.word {C n d : String} {A : Nat → Prop} {s : State} {args : Array Value} (h : vx_L C n d A s s.heap) : (Cond.laysStatic C n d).before args s = true := by
  obtain ⟨c, k, i, f, a, cell, h1, h2, h3, h4, h5, h6, h7, h8, h9, -⟩ := h
  show (Cond.laysStatic C n d).holds args s none s [] = true
  exact Cond.laysStatic_of h1 h2 h3 h4 h5 h6 h7 h8 h9
/-- .. and what it holds: null or some reference -/
def vx_Zq (C n d : String) (A : Nat → Prop) (U : State) (H : Heap) : Prop := va_Zq C n d A U H ∧ vx_L C n d A U H
theorem vx_Zq.moved {C n d : String} {A : Nat → Prop} {u U : State} {H : Heap} (hvm : u.vm.Alike U.vm) (h : vx_Zq C n d A u H) : vx_Zq C n d A U H := ⟨va_Zq.moved hvm h.1, vx_L.moved hvm h.2⟩
theorem vx_Zq.kept {C n d : String} {A : Nat → Prop} {U : State} {H H1 : Heap} (h : vx_Zq C n d A U H) (hq : ∀ a : Nat, a < H.size → ¬ A a → H1[a]? = H[a]?) : vx_Zq C n d A U H1 := ⟨va_Zq.kept h.1 hq, vx_L.kept h.2 hq⟩
theorem vx_Zq.narrow {C n d : String} {A B : Nat → Prop} {U : State} {H : Heap} (h : vx_Zq C n d A U H) (hAB : ∀ q, B q → A q) : vx_Zq C n d B U H := ⟨va_Zq.narrow h.1 hAB, vx_L.narrow h.2 hAB⟩
theorem vx_Zqof {args : Array Value} {s : State} {C n d : String} {A : Nat → Prop} (hl : (Cond.laysStatic C n d).before args s = true) (hini : (Cond.initialized C).before args s = true) (h : (Cond.isRef (.static C n d)).before args s = true) (hA : ∀ a : Nat, a < s.heap.size → ¬ A a) : vx_Zq C n d A s s.heap := by
  refine ⟨va_Zqof hl hini h hA, ?_⟩
  obtain ⟨c, k, i, f, a, cell, h1, h2, h3, h4, h5, h6, h7, h8, h9⟩ := Cond.laysStatic_spec hl
  exact ⟨c, k, i, f, a, cell, h1, h2, h3, h4, h5, h6, h7, h8, h9, hA a (Array.getElem?_eq_some_iff.mp h5).1⟩
theorem vx_isRef {C n d : String} {v : Value} {A : Nat → Prop} {s : State} {args : Array Value} (h : va_Z C n d v A s s.heap) (hv : v.isRef = true) : (Cond.isRef (.static C n d)).before args s = true := by
  obtain ⟨cf, kf, fi, f, a, cell, h1, h2, h3, h4, h5, h6, h7, -⟩ := h
  have he : (Term.static C n d).eval args s none [] s = some v := by
    simp [Term.eval, State.fieldNamed?, h1, h2, h4, h5, h6, h7]
  simp only [Cond.before, Cond.holds, Cond.value, he]
  cases v <;> simp_all [Value.isRef]
theorem vx_isRefq {C n d : String} {A : Nat → Prop} {s : State} {args : Array Value} (h : va_Zq C n d A s s.heap) : (Cond.isRef (.static C n d)).before args s = true := by
  rcases h with h | ⟨t, h⟩
  · exact vx_isRef h rfl
  · exact vx_isRef h rfl
/-- the same frame, seen from here: as if the method were called anew in this heap -/
theorem vx_rebase {T : State} (X : Stand p l e R s m args below meth c T locs cells slots) {R' : Room} (hf : R'.frames ≤ R.frames) (hl : R'.locals ≤ R.locals) (hc : cells + R'.cells ≤ R.cells) (hs : slots + R'.slots ≤ R.slots) :
    Stand p l e R' ((T.setVm s.vm).setFrames (.invoking m args :: below)) m args below meth c T [] 0 0 := by
  have htop : (T.setVm s.vm).topJava?.isSome := X.here.top
  have hF : ((T.setVm s.vm).setFrames (.invoking m args :: below)).frames = .invoking m args :: below := State.frames_setFrames _ (State.cur_lt_of_top htop)
  obtain ⟨g₀, hg0⟩ := Option.isSome_iff_exists.mp htop
  obtain ⟨r, hr⟩ := State.topJava?_eq_some.mp hg0
  have hl9 : e.platform.stackLimits (T.setVm s.vm).me = e.platform.stackLimits s.me := X.limits
  have hb9 : (T.setVm s.vm).me.stackBytes = s.me.stackBytes := X.bytes
  refine ⟨X.admits, X.cas, X.clock, hF, ?_, X.hears, X.method, X.code, X.here, X.tail, X.warmed, ?_, ?_, ?_⟩
  · have h := X.room
    have hU : ((T.setVm s.vm).setFrames (.invoking m args :: below)).localsInUse = s.localsInUse := by
      rw [State.localsInUse_invoking hF (meth := meth) (c := c) X.method X.code, State.localsInUse_invoking X.frames X.method X.code]
    simp only [State.hasRoom, Bool.and_eq_true, decide_eq_true_eq] at h ⊢
    obtain ⟨⟨⟨⟨h1, h2, h3, h4, h5, h6⟩, h7⟩, h8⟩, h9⟩ := h
    rw [X.frames, List.length_cons] at h2 h3
    have q1 := X.heapSize
    have q2 := X.used
    simp only [hF, hU, List.length_cons, State.stackLimits_setFrames, State.stackBytes_setFrames, hl9, hb9]
    refine ⟨⟨⟨⟨by omega, by omega, by omega, by omega, by omega, h6⟩, ?_⟩, ?_⟩, X.book⟩
    · show T.heap.size + R'.cells ≤ e.platform.maxCells
      omega
    · show T.slotsUsed + R'.slots ≤ e.platform.maxSlots
      omega
  · rw [State.stackLimits_setFrames]; rfl
  · rw [State.stackBytes_setFrames]; rfl
  · refine ⟨?_, Nat.le_refl _, Nat.le_refl _, ?_, ?_, fun a c9 h9 => ⟨c9, h9, rfl, rfl, fun _ _ => rfl⟩⟩
    · obtain ⟨t, ht, -⟩ := State.frames_cons hr
      show T.setVm s.vm = { ((T.setVm s.vm).setFrames (.invoking m args :: below)).setFrames (T.setVm s.vm).frames with heap := T.heap, slotsUsed := T.slotsUsed }
      rw [State.setFrames_setFrames, State.setFrames_self ht]
      rfl
    · show T.slotsUsed = T.slotsUsed + ((T.heap.toList.drop T.heap.size).map (·.slots.size)).sum
      rw [List.drop_eq_nil_of_le (Nat.le_of_eq Array.length_toList)]
      rfl
    · show ((T.heap.toList.drop T.heap.size).map (·.slots.size)).sum ≤ 0
      rw [List.drop_eq_nil_of_le (Nat.le_of_eq Array.length_toList)]
      exact Nat.le_refl _
/-- 'throw new E()': new; dup; invokespecial; athrow -/
theorem vx_throw0 {cc : ByteArray} {pc : Nat} (hexec : p.tables.exec = Jvm.exec) (hb : c.code = cc) (hl : l.stackTraces = false) {own cls : String} {names : List String} {ik ic mc ms : Nat} {A : Nat → Prop}
    (hown : s.vm.findClass own = some m.cls) (hcls : Bundle.fit cls = true) (hnames : ∀ n ∈ names, Bundle.fit n = true)
    (hk : (Cond.classLink own ik cls).before args s = true) (hini : (Cond.initialized cls).before args s = true) (hat : ∀ w ∈ vx_at0 own ic cls names, w.before args s = true)
    (hgood : ∀ w ∈ Cond.classLink own ik cls :: Cond.initialized cls :: vx_at0 own ic cls names, vx_ot w = true)
    (hU : vx_Zq Bundle.tN "UNASSIGNED_STACK" Bundle.steD A s s.heap) (hN : vx_Zq Bundle.tN "SUPPRESSED_SENTINEL" Bundle.listD A s s.heap) (hS : va_S A s.heap H locs) (hsize : ls.size = c.maxLocals)
    (d0 : decode cc pc = .ok (.new ik, 3)) (d3 : decode cc (pc + 3) = .ok (.dup, 1)) (d4 : decode cc (pc + 4) = .ok (.invokespecial ic, 3)) (d7 : decode cc (pc + 7) = .ok (.athrow, 1))
    (hout : ∀ x ∈ c.exceptionTable.toList, covers x (pc + 7) = false)
    (hRframes : names.length + 3 < R.frames) (hRlocals : (rest.map fun v => v.category).sum + (13 * (names.length + 1) + 42) ≤ R.locals) (hRcells : cells + 1 ≤ R.cells) (hRslots : slots + 6 ≤ R.slots) (hlocks : meth.locks = false)
    (hx : ∀ t : State, s.vm.Alike t.vm → H.size ≤ t.heap.size → (∀ q : Nat, q < H.size → t.heap[q]? = H[q]?) → XC cls s t)
    (hf : ∀ z ∈ locs, free z.base) (hc : cells + 1 ≤ mc) (hs : slots + 6 ≤ ms) :
    W p l e R s m args below meth c H locs cells slots (vx_MQ below Qc XC args s mc ms free) (F0 m pc ls rest) := by
  intro T hT X
  have htr : e.platform.stackTraces = false := (show e.platform.stackTraces = l.stackTraces by rw [X.admits.platform]).trans hl
  have Y := vx_rebase X (R' := { frames := R.frames, locals := R.locals, cells := 1, slots := 6 }) (Nat.le_refl _) (Nat.le_refl _) hRcells hRslots
  obtain ⟨s', hA⟩ : ∃ z, z = (T.setVm s.vm).setFrames (.invoking m args :: below) := ⟨_, rfl⟩
  rw [← hA] at Y
  have hvm : s'.vm = s.vm := by rw [hA]; rfl
  have hhp : s'.heap = H := by rw [hA]; exact hT
  have hW0 : s.WarmedH s'.vm := by rw [hvm]; exact State.WarmedH.refl s
  have hat' : ∀ w ∈ vx_at0 own ic cls names, w.before args s' = true := fun w hw => vx_ot_at hW0 hvm.symm (hgood w (List.mem_cons_of_mem _ (List.mem_cons_of_mem _ hw))) (hat w hw)
  have hk' : (Cond.classLink own ik cls).before args s' = true := vx_ot_at hW0 hvm.symm (hgood _ List.mem_cons_self) hk
  have hini' : (Cond.initialized cls).before args s' = true := vx_ot_at hW0 hvm.symm (hgood _ (List.mem_cons_of_mem _ List.mem_cons_self)) hini
  have hU' : vx_Zq Bundle.tN "UNASSIGNED_STACK" Bundle.steD A s' s'.heap := by rw [hhp]; exact vx_Zq.moved hW0.alike (hU.kept hS.2.1)
  have hN' : vx_Zq Bundle.tN "SUPPRESSED_SENTINEL" Bundle.listD A s' s'.heap := by rw [hhp]; exact vx_Zq.moved hW0.alike (hN.kept hS.2.1)
  have h : ∀ w ∈ Bundle.ownAtoms0 own ic cls names, w.before args s' = true := vx_own hat' (vx_isRefq hU'.1) (vx_isRefq hN'.1) hU'.2.word hN'.2.word
  have hown' : s'.vm.findClass own = some m.cls := by rw [hvm]; exact hown
  have hins : (Cond.instantiable cls 6).before args s' = true := h _ (by simp [Bundle.ownAtoms0])
  obtain ⟨vm₁, cX, kX, hfX, hkX, -, -, X₁, st1⟩ := Y.newCold hexec (own := own) (C := cls) (index := ik) (n := 6) hown' hk' hins hini'
    (g := F0 m pc ls rest) rfl (by rw [hb]; exact d0) (Nat.le_refl _) (Nat.le_refl _)
  generalize hT1 : (T.setVm vm₁).pushCell { cls := cX, slots := kX.instanceTypes.map defaultValue, vm := .none } = T1 at X₁ st1
  have hcat : (Value.ref T.heap.size).category = 1 := rfl
  have hcellA : T1.heap[T.heap.size]? = some (freshCell cX kX) := by rw [← hT1]; exact State.heap_pushCell_size _ _
  have d3' : decode c.code (pc + 3) = .ok (.dup, 1) := by rw [hb]; exact d3
  obtain ⟨U, hsteps, hrun, hend, hW, hsame, ce, hce, hO⟩ := X₁.ctorThrow0 hexec htr (own := own) (cls := cls) (names := names) (ic := ic) hown' hcls hnames h (fun x hx => nomatch hx) hfX hkX hcellA (by rw [hhp, hT]; exact Nat.le_refl _)
    (g := { method := m, pc := pc + 4, locals := ls, stack := .ref T.heap.size :: .ref T.heap.size :: rest, locked := none }) rfl hsize rfl rfl (rest := rest) rfl
    (by rw [hb]; exact d4) (by rw [hb]; exact d7) hout hRframes (by simp only [List.map_cons, List.sum_cons, hcat]; omega) hlocks
  obtain ⟨f1, f2⟩ := vx_frame hsame
  rw [hhp] at f1 f2
  have hWs : s.WarmedH U.vm := State.WarmedH.trans hW0 hW
  have hcl : s.vm.findClass cls = some ce.cls := by
    have h9 := hO.cls
    rw [hvm] at h9
    exact h9
  have hall : s.sameButNew ({ U with vm := s.vm } : State) locs mc ms := by
    subst hA
    obtain ⟨e1, e2⟩ := hsame
    rw [State.setFrames_setFrames] at e1
    have h2 : (T.setVm s.vm).sameButNew ({ U with vm := s.vm } : State) [] (0 + 1) (0 + 6) := ⟨e1, e2⟩
    have h3 := X.same.trans h2
    rw [List.append_nil] at h3
    exact h3.mono hc hs
  refine ⟨U, ?_, .threw T.heap.size, hrun, hend, Or.inr ⟨T.heap.size, rfl, cls, ce, locs, hx U hWs.alike f1 (fun q hq => f2 q hq (fun z hz => nomatch hz)), hce, hO.vm, hcl, hWs, hall, hf⟩⟩
  refine st1 _ ?_
  show Steps p.tables e below (T1.setTop { method := m, pc := pc + 3, locals := ls, stack := .ref T.heap.size :: rest, locked := none }) _
  jvm_step X₁.here [X₁.here.top, hexec, d3', Value.category]
  exact hsteps
/-- 'throw new E("text")': new; dup; ldc; invokespecial; athrow -/
theorem vx_throwS {cc : ByteArray} {pc : Nat} (hexec : p.tables.exec = Jvm.exec) (hb : c.code = cc) (hl : l.stackTraces = false) {own cls text : String} {names : List String} {ik is ic mc ms sa : Nat} {A : Nat → Prop}
    (hown : s.vm.findClass own = some m.cls) (hcls : Bundle.fit cls = true) (hnames : ∀ n ∈ names, Bundle.fit n = true)
    (hk : (Cond.classLink own ik cls).before args s = true) (hini : (Cond.initialized cls).before args s = true) (hstr : vk_R own is text sa s) (hat : ∀ w ∈ vx_atS own ic cls names, w.before args s = true)
    (hgood : ∀ w ∈ Cond.classLink own ik cls :: Cond.initialized cls :: vx_atS own ic cls names, vx_ot w = true)
    (hU : vx_Zq Bundle.tN "UNASSIGNED_STACK" Bundle.steD A s s.heap) (hN : vx_Zq Bundle.tN "SUPPRESSED_SENTINEL" Bundle.listD A s s.heap) (hS : va_S A s.heap H locs) (hsize : ls.size = c.maxLocals)
    (d0 : decode cc pc = .ok (.new ik, 3)) (d3 : decode cc (pc + 3) = .ok (.dup, 1)) (d4 : decode cc (pc + 4) = .ok (.ldc is, 2)) (d6 : decode cc (pc + 6) = .ok (.invokespecial ic, 3)) (d9 : decode cc (pc + 9) = .ok (.athrow, 1))
    (hout : ∀ x ∈ c.exceptionTable.toList, covers x (pc + 9) = false)
    (hRframes : names.length + 3 < R.frames) (hRlocals : (rest.map fun v => v.category).sum + (13 * (names.length + 1) + 43) ≤ R.locals) (hRcells : cells + 1 ≤ R.cells) (hRslots : slots + 6 ≤ R.slots) (hlocks : meth.locks = false)
    (hx : ∀ t : State, s.vm.Alike t.vm → H.size ≤ t.heap.size → (∀ q : Nat, q < H.size → t.heap[q]? = H[q]?) → XC cls s t)
    (hf : ∀ z ∈ locs, free z.base) (hc : cells + 1 ≤ mc) (hs : slots + 6 ≤ ms) :
    W p l e R s m args below meth c H locs cells slots (vx_MQ below Qc XC args s mc ms free) (F0 m pc ls rest) := by
  intro T hT X
  have htr : e.platform.stackTraces = false := (show e.platform.stackTraces = l.stackTraces by rw [X.admits.platform]).trans hl
  have Y := vx_rebase X (R' := { frames := R.frames, locals := R.locals, cells := 1, slots := 6 }) (Nat.le_refl _) (Nat.le_refl _) hRcells hRslots
  obtain ⟨s', hA⟩ : ∃ z, z = (T.setVm s.vm).setFrames (.invoking m args :: below) := ⟨_, rfl⟩
  rw [← hA] at Y
  have hvm : s'.vm = s.vm := by rw [hA]; rfl
  have hhp : s'.heap = H := by rw [hA]; exact hT
  have hW0 : s.WarmedH s'.vm := by rw [hvm]; exact State.WarmedH.refl s
  have hat' : ∀ w ∈ vx_atS own ic cls names, w.before args s' = true := fun w hw => vx_ot_at hW0 hvm.symm (hgood w (List.mem_cons_of_mem _ (List.mem_cons_of_mem _ hw))) (hat w hw)
  have hk' : (Cond.classLink own ik cls).before args s' = true := vx_ot_at hW0 hvm.symm (hgood _ List.mem_cons_self) hk
  have hini' : (Cond.initialized cls).before args s' = true := vx_ot_at hW0 hvm.symm (hgood _ (List.mem_cons_of_mem _ List.mem_cons_self)) hini
  have hU' : vx_Zq Bundle.tN "UNASSIGNED_STACK" Bundle.steD A s' s'.heap := by rw [hhp]; exact vx_Zq.moved hW0.alike (hU.kept hS.2.1)
  have hN' : vx_Zq Bundle.tN "SUPPRESSED_SENTINEL" Bundle.listD A s' s'.heap := by rw [hhp]; exact vx_Zq.moved hW0.alike (hN.kept hS.2.1)
  have h : ∀ w ∈ Bundle.ownAtoms own ic cls names, w.before args s' = true := vx_own hat' (vx_isRefq hU'.1) (vx_isRefq hN'.1) hU'.2.word hN'.2.word
  have hown' : s'.vm.findClass own = some m.cls := by rw [hvm]; exact hown
  have hins : (Cond.instantiable cls 6).before args s' = true := h _ (by simp [Bundle.ownAtoms])
  obtain ⟨vm₁, cX, kX, hfX, hkX, -, -, X₁, st1⟩ := Y.newCold hexec (own := own) (C := cls) (index := ik) (n := 6) hown' hk' hins hini'
    (g := F0 m pc ls rest) rfl (by rw [hb]; exact d0) (Nat.le_refl _) (Nat.le_refl _)
  generalize hT1 : (T.setVm vm₁).pushCell { cls := cX, slots := kX.instanceTypes.map defaultValue, vm := .none } = T1 at X₁ st1
  have hcat : (Value.ref T.heap.size).category = 1 := rfl
  have hcellA : T1.heap[T.heap.size]? = some (freshCell cX kX) := by rw [← hT1]; exact State.heap_pushCell_size _ _
  have d3' : decode c.code (pc + 3) = .ok (.dup, 1) := by rw [hb]; exact d3
  have d4' : decode c.code (pc + 4) = .ok (.ldc is, 2) := by rw [hb]; exact d4
  have hstr' : vk_R own is text sa s' := vk_R.warm hW0 hstr
  obtain ⟨U, hsteps, hrun, hend, hW, hsame, ce, hce, hO⟩ := X₁.ctorThrowS hexec htr (own := own) (cls := cls) (names := names) (ic := ic) hown' hcls hnames h (fun x hx => nomatch hx) hfX hkX hcellA (by rw [hhp, hT]; exact Nat.le_refl _) (msg := .ref sa) rfl
    (g := { method := m, pc := pc + 6, locals := ls, stack := .ref sa :: .ref T.heap.size :: .ref T.heap.size :: rest, locked := none }) rfl hsize rfl rfl (rest := rest) rfl
    (by rw [hb]; exact d6) (by rw [hb]; exact d9) hout hRframes (by simp only [List.map_cons, List.sum_cons, hcat]; omega) hlocks
  obtain ⟨f1, f2⟩ := vx_frame hsame
  rw [hhp] at f1 f2
  have hWs : s.WarmedH U.vm := State.WarmedH.trans hW0 hW
  have hcl : s.vm.findClass cls = some ce.cls := by
    have h9 := hO.cls
    rw [hvm] at h9
    exact h9
  have hall : s.sameButNew ({ U with vm := s.vm } : State) locs mc ms := by
    subst hA
    obtain ⟨e1, e2⟩ := hsame
    rw [State.setFrames_setFrames] at e1
    have h2 : (T.setVm s.vm).sameButNew ({ U with vm := s.vm } : State) [] (0 + 1) (0 + 6) := ⟨e1, e2⟩
    have h3 := X.same.trans h2
    rw [List.append_nil] at h3
    exact h3.mono hc hs
  refine ⟨U, ?_, .threw T.heap.size, hrun, hend, Or.inr ⟨T.heap.size, rfl, cls, ce, locs, hx U hWs.alike f1 (fun q hq => f2 q hq (fun z hz => nomatch hz)), hce, hO.vm, hcl, hWs, hall, hf⟩⟩
  refine st1 _ ?_
  show Steps p.tables e below (T1.setTop { method := m, pc := pc + 3, locals := ls, stack := .ref T.heap.size :: rest, locked := none }) _
  jvm_step X₁.here [X₁.here.top, hexec, d3', Value.category]
  exact X₁.ldcString hexec (own := own) (text := text) (index := is) (a := sa) hown' hstr'.1 hstr'.2
    (g := { method := m, pc := pc + 4, locals := ls, stack := .ref T.heap.size :: .ref T.heap.size :: rest, locked := none }) rfl d4' _ hsteps
/-- 'throw new E("text")', the text by a wide index -/
theorem vx_throwSW {cc : ByteArray} {pc : Nat} (hexec : p.tables.exec = Jvm.exec) (hb : c.code = cc) (hl : l.stackTraces = false) {own cls text : String} {names : List String} {ik is ic mc ms sa : Nat} {A : Nat → Prop}
    (hown : s.vm.findClass own = some m.cls) (hcls : Bundle.fit cls = true) (hnames : ∀ n ∈ names, Bundle.fit n = true)
    (hk : (Cond.classLink own ik cls).before args s = true) (hini : (Cond.initialized cls).before args s = true) (hstr : vk_R own is text sa s) (hat : ∀ w ∈ vx_atS own ic cls names, w.before args s = true)
    (hgood : ∀ w ∈ Cond.classLink own ik cls :: Cond.initialized cls :: vx_atS own ic cls names, vx_ot w = true)
    (hU : vx_Zq Bundle.tN "UNASSIGNED_STACK" Bundle.steD A s s.heap) (hN : vx_Zq Bundle.tN "SUPPRESSED_SENTINEL" Bundle.listD A s s.heap) (hS : va_S A s.heap H locs) (hsize : ls.size = c.maxLocals)
    (d0 : decode cc pc = .ok (.new ik, 3)) (d3 : decode cc (pc + 3) = .ok (.dup, 1)) (d4 : decode cc (pc + 4) = .ok (.ldc_w is, 3)) (d7 : decode cc (pc + 7) = .ok (.invokespecial ic, 3)) (d10 : decode cc (pc + 10) = .ok (.athrow, 1))
    (hout : ∀ x ∈ c.exceptionTable.toList, covers x (pc + 10) = false)
    (hRframes : names.length + 3 < R.frames) (hRlocals : (rest.map fun v => v.category).sum + (13 * (names.length + 1) + 43) ≤ R.locals) (hRcells : cells + 1 ≤ R.cells) (hRslots : slots + 6 ≤ R.slots) (hlocks : meth.locks = false)
    (hx : ∀ t : State, s.vm.Alike t.vm → H.size ≤ t.heap.size → (∀ q : Nat, q < H.size → t.heap[q]? = H[q]?) → XC cls s t)
    (hf : ∀ z ∈ locs, free z.base) (hc : cells + 1 ≤ mc) (hs : slots + 6 ≤ ms) :
    W p l e R s m args below meth c H locs cells slots (vx_MQ below Qc XC args s mc ms free) (F0 m pc ls rest) := by
  intro T hT X
  have htr : e.platform.stackTraces = false := (show e.platform.stackTraces = l.stackTraces by rw [X.admits.platform]).trans hl
  have Y := vx_rebase X (R' := { frames := R.frames, locals := R.locals, cells := 1, slots := 6 }) (Nat.le_refl _) (Nat.le_refl _) hRcells hRslots
  obtain ⟨s', hA⟩ : ∃ z, z = (T.setVm s.vm).setFrames (.invoking m args :: below) := ⟨_, rfl⟩
  rw [← hA] at Y
  have hvm : s'.vm = s.vm := by rw [hA]; rfl
  have hhp : s'.heap = H := by rw [hA]; exact hT
  have hW0 : s.WarmedH s'.vm := by rw [hvm]; exact State.WarmedH.refl s
  have hat' : ∀ w ∈ vx_atS own ic cls names, w.before args s' = true := fun w hw => vx_ot_at hW0 hvm.symm (hgood w (List.mem_cons_of_mem _ (List.mem_cons_of_mem _ hw))) (hat w hw)
  have hk' : (Cond.classLink own ik cls).before args s' = true := vx_ot_at hW0 hvm.symm (hgood _ List.mem_cons_self) hk
  have hini' : (Cond.initialized cls).before args s' = true := vx_ot_at hW0 hvm.symm (hgood _ (List.mem_cons_of_mem _ List.mem_cons_self)) hini
  have hU' : vx_Zq Bundle.tN "UNASSIGNED_STACK" Bundle.steD A s' s'.heap := by rw [hhp]; exact vx_Zq.moved hW0.alike (hU.kept hS.2.1)
  have hN' : vx_Zq Bundle.tN "SUPPRESSED_SENTINEL" Bundle.listD A s' s'.heap := by rw [hhp]; exact vx_Zq.moved hW0.alike (hN.kept hS.2.1)
  have h : ∀ w ∈ Bundle.ownAtoms own ic cls names, w.before args s' = true := vx_own hat' (vx_isRefq hU'.1) (vx_isRefq hN'.1) hU'.2.word hN'.2.word
  have hown' : s'.vm.findClass own = some m.cls := by rw [hvm]; exact hown
  have hins : (Cond.instantiable cls 6).before args s' = true := h _ (by simp [Bundle.ownAtoms])
  obtain ⟨vm₁, cX, kX, hfX, hkX, -, -, X₁, st1⟩ := Y.newCold hexec (own := own) (C := cls) (index := ik) (n := 6) hown' hk' hins hini'
    (g := F0 m pc ls rest) rfl (by rw [hb]; exact d0) (Nat.le_refl _) (Nat.le_refl _)
  generalize hT1 : (T.setVm vm₁).pushCell { cls := cX, slots := kX.instanceTypes.map defaultValue, vm := .none } = T1 at X₁ st1
  have hcat : (Value.ref T.heap.size).category = 1 := rfl
  have hcellA : T1.heap[T.heap.size]? = some (freshCell cX kX) := by rw [← hT1]; exact State.heap_pushCell_size _ _
  have d3' : decode c.code (pc + 3) = .ok (.dup, 1) := by rw [hb]; exact d3
  have d4' : decode c.code (pc + 4) = .ok (.ldc_w is, 3) := by rw [hb]; exact d4
  have hstr' : vk_R own is text sa s' := vk_R.warm hW0 hstr
  obtain ⟨U, hsteps, hrun, hend, hW, hsame, ce, hce, hO⟩ := X₁.ctorThrowS hexec htr (own := own) (cls := cls) (names := names) (ic := ic) hown' hcls hnames h (fun x hx => nomatch hx) hfX hkX hcellA (by rw [hhp, hT]; exact Nat.le_refl _) (msg := .ref sa) rfl
    (g := { method := m, pc := pc + 7, locals := ls, stack := .ref sa :: .ref T.heap.size :: .ref T.heap.size :: rest, locked := none }) rfl hsize rfl rfl (rest := rest) rfl
    (by rw [hb]; exact d7) (by rw [hb]; exact d10) hout hRframes (by simp only [List.map_cons, List.sum_cons, hcat]; omega) hlocks
  obtain ⟨f1, f2⟩ := vx_frame hsame
  rw [hhp] at f1 f2
  have hWs : s.WarmedH U.vm := State.WarmedH.trans hW0 hW
  have hcl : s.vm.findClass cls = some ce.cls := by
    have h9 := hO.cls
    rw [hvm] at h9
    exact h9
  have hall : s.sameButNew ({ U with vm := s.vm } : State) locs mc ms := by
    subst hA
    obtain ⟨e1, e2⟩ := hsame
    rw [State.setFrames_setFrames] at e1
    have h2 : (T.setVm s.vm).sameButNew ({ U with vm := s.vm } : State) [] (0 + 1) (0 + 6) := ⟨e1, e2⟩
    have h3 := X.same.trans h2
    rw [List.append_nil] at h3
    exact h3.mono hc hs
  refine ⟨U, ?_, .threw T.heap.size, hrun, hend, Or.inr ⟨T.heap.size, rfl, cls, ce, locs, hx U hWs.alike f1 (fun q hq => f2 q hq (fun z hz => nomatch hz)), hce, hO.vm, hcl, hWs, hall, hf⟩⟩
  refine st1 _ ?_
  show Steps p.tables e below (T1.setTop { method := m, pc := pc + 3, locals := ls, stack := .ref T.heap.size :: rest, locked := none }) _
  jvm_step X₁.here [X₁.here.top, hexec, d3', Value.category]
  exact X₁.ldcStringW hexec (own := own) (text := text) (index := is) (a := sa) hown' hstr'.1 hstr'.2
    (g := { method := m, pc := pc + 4, locals := ls, stack := .ref T.heap.size :: .ref T.heap.size :: rest, locked := none }) rfl d4' _ hsteps
end Ends
section Bodies
variable {l : Launch}
theorem vx_ofW {y : MethodName} {ws ws' : List Cond} {rm : Room} {Pc : Array Value → State → Prop} {Qc : Array Value → State → Outcome → State → Prop} {XC : String → State → State → Prop} {mc ms : Nat} {free : Addr → Prop} {cc : ByteArray} {maxL : Nat} {ret : Option FieldType}
    (hy : plainName y.cls = true) (hw : ws = Cond.code y cc maxL ret :: ws')
    (body : ∀ p e s m args below meth c s₁, BodyLoose p l y (headSpec ws rm) cc maxL ret e s m args below meth c s₁ → c.maxLocals = maxL → (∀ x ∈ c.exceptionTable.toList, False) → Pc args s →
      W p l e (headSpec ws rm).room s m args below meth c s.heap [] 0 0 (vx_MQ below Qc XC args s mc ms free) (entryFrame m args maxL)) : vx_Met l y ws rm Pc Qc XC mc ms free := by
  refine MetFree.of_bodyS (code := cc) (maxLocals := maxL) (ret := ret) hy ?_ ?_
  · intro args s m h hn
    obtain ⟨meth, c, h1, h2, h3, h4, h5, h6, -, -⟩ := Cond.code_spec hn (atoms_spec (ws := ws) h _ (by rw [hw]; exact List.mem_cons_self))
    exact ⟨meth, c, h1, h2, h3, h4, h5, h6⟩
  · intro p e s m args below meth c s₁ B hml hP _
    have hh0 : s₁.heap = s.heap := by rw [B.state]; rfl
    have ht : ∀ x ∈ c.exceptionTable.toList, False := by
      obtain ⟨meth9, c9, h1, h2, -, -, -, -, h7, -⟩ := Cond.code_spec B.named (atoms_spec (ws := ws) B.pre _ (by rw [hw]; exact List.mem_cons_self))
      cases Option.some.inj (h1.symm.trans B.method)
      cases Option.some.inj (h2.symm.trans (Stand.of_body B).code)
      intro x hx
      rw [Array.isEmpty_iff.mp h7] at hx
      cases hx
    obtain ⟨t, a1, o, b1, b2, b3⟩ := body p e s m args below meth c s₁ B hml ht hP s₁ hh0 (Stand.of_body B)
    exact ⟨t, o, a1, b1, b2, b3⟩
/-- the table of a body with handlers -/
theorem vx_table {p : Program} {x y : MethodName} {S : Spec} {cc bytes : ByteArray} {maxL maxL' : Nat} {ret ret' : Option FieldType} {e : Env} {s s₁ : State} {m : MethodId} {args : Array Value} {below : List Frame} {meth : Method} {c : Code} {hh : List (Nat × Nat × Nat × Nat)}
    (B : BodyLoose p l y S cc maxL ret e s m args below meth c s₁) (h : (Cond.codeWith y bytes maxL' ret' hh).before args s = true) : c.exceptionTable.toList = tableOf hh := by
  obtain ⟨m9, meth9, c9, hn9, h1, h2, -, -, h6, -⟩ := Cond.codeWith_spec h
  cases Option.some.inj (hn9.symm.trans B.named)
  cases Option.some.inj (h1.symm.trans B.method)
  cases Option.some.inj (h2.symm.trans (Stand.of_body B).code)
  rw [← h6, table_eq]
end Bodies
end VXA
/-! ===== END ===== -/
/-! ===== BEGIN a static call of a method with an exception table ===== -/
section VXS
variable {p : Program} {l : Launch} {e : Env} {R : Room} {s : State} {m : MethodId} {args : Array Value} {below : List Frame} {meth : Method} {c : Code} {T : State} {H : Heap} {locs : List Loc} {cells slots : Nat}
abbrev vx_CSW (R : Room) (s : State) (args : Array Value) (own : String) (index : Nat) (y : MethodName) (bytes : ByteArray) (maxL : Nat) (ret : Option FieldType) (hh : List (Nat × Nat × Nat × Nat)) (ws : List Cond) (rm : Room) (mc ms n : Nat) : Prop :=
  (rm.cells = mc ∧ rm.slots = ms ∧ rm.frames + 1 ≤ R.frames ∧ 8 + (maxL + 11) + rm.locals ≤ R.locals ∧ (∀ w ∈ ws, ∀ (a' : Array Value) (U : State), s.WarmedH U.vm → w.before a' U = true) ∧ Cond.codeWith y bytes maxL ret hh ∈ ws) ∧
  (Cond.codeWith y bytes maxL ret hh).before args s = true ∧ (Cond.initialized y.cls).before args s = true ∧ (y.cls ≠ "java/lang/invoke/MethodHandle" ∧ y.cls ≠ "java/lang/invoke/VarHandle") ∧
  (∀ sig, parseMethodDescriptor y.desc = some sig → n = sig.parameters.length) ∧ (Cond.methodLink own index y).before args s = true ∧ (Cond.static y).before args s = true
theorem vx_cwSW {own : String} {index maxL mc ms : Nat} {y : MethodName} {bytes : ByteArray} {ret : Option FieldType} {hh : List (Nat × Nat × Nat × Nat)} {Ts ws ws' : List Cond} {rm : Room} (n : Nat) (ht : ∀ w ∈ Ts, w.before args s = true) (hT : GoodIn Ts (va_wsS own index y ws)) (hw : ws = Cond.codeWith y bytes maxL ret hh :: ws') (hrc : rm.cells = mc) (hrs : rm.slots = ms)
    (hd : y.cls ≠ "java/lang/invoke/MethodHandle" ∧ y.cls ≠ "java/lang/invoke/VarHandle" ∧ (parseMethodDescriptor y.desc).map (fun d => d.parameters.length) = some n) (hR : rm.frames + 1 ≤ R.frames ∧ 8 + (maxL + 11) + rm.locals ≤ R.locals) :
    vx_CSW R s args own index y bytes maxL ret hh ws rm mc ms n := by
  have ok : ∀ w ∈ va_wsS own index y ws, w.before args s = true := fun w h => ht w (hT w h).1
  have hG : GoodIn Ts ws := fun w h => hT w (by unfold va_wsS; exact List.mem_append_right _ h)
  have hc : Cond.codeWith y bytes maxL ret hh ∈ ws := by rw [hw]; exact List.mem_cons_self
  refine ⟨⟨hrc, hrs, hR.1, hR.2, pay_in ht hG, hc⟩, ht _ (hG _ hc).1, ok _ (by simp [va_wsS]), ⟨hd.1, hd.2.1⟩, fun sig h => ?_, ok _ (by simp [va_wsS]), ok _ (by simp [va_wsS])⟩
  have h2 := hd.2.2
  rw [h] at h2
  exact (Option.some.inj h2).symm
theorem vx_callSW (X : Stand p l e R s m args below meth c T locs cells slots) (hexec : p.tables.exec = Jvm.exec) {own : String} {index : Nat} {y : MethodName} {bytes : ByteArray} {maxL : Nat} {ret : Option FieldType} {hh : List (Nat × Nat × Nat × Nat)}
    (hown : s.vm.findClass own = some m.cls) (hlink : (Cond.methodLink own index y).before args s = true) (hstat : (Cond.static y).before args s = true) (hinit : (Cond.initialized y.cls).before args s = true)
    (hcode : (Cond.codeWith y bytes maxL ret hh).before args s = true) (hy : y.cls ≠ "java/lang/invoke/MethodHandle" ∧ y.cls ≠ "java/lang/invoke/VarHandle")
    {W9 : Nat} {Pre : Pt → Array Value → Prop} {Post : Pt → Array Value → Option Value → Pt → Prop} (hK : Back l R p e below s args y 3 W9 Pre Post)
    {g : JFrame} (hg : g.method = m) (hsize : g.locals.size = c.maxLocals) {argsL rest : List Value} (hlen : ∀ sig, parseMethodDescriptor y.desc = some sig → argsL.length = sig.parameters.length)
    (hstack : g.stack = argsL.reverse ++ rest) (hW : 2 * g.monitorRoom + (rest.map fun v => v.category).sum ≤ W9) (hdg : decode c.code g.pc = .ok (.invokestatic index, 3))
    (hpre : ∀ vm₁, s.WarmedH vm₁ → Pre ⟨T.setVm vm₁, locs, cells, slots⟩ argsL.toArray) :
    ∃ (v : Option Value) (vm₁ : Vm) (B : Pt), s.WarmedH vm₁ ∧ Stand p l e R s m args below meth c B.U B.locs B.cells B.slots ∧ Post ⟨T.setVm vm₁, locs, cells, slots⟩ argsL.toArray v B ∧
      ∀ target, Steps p.tables e below (B.U.setTop { g with pc := g.pc + 3, stack := v.toList ++ rest }) target → Steps p.tables e below (T.setTop g) target := by
  obtain ⟨mk, methM, cM, hnamed, hmethM, -, -, -, -, -, -, hsigM⟩ := Cond.codeWith_spec hcode
  have hstatic : methM.isStatic = true := Cond.static_spec hnamed hmethM hstat
  obtain ⟨kP, hkP, -⟩ := className_of_methodNamed hnamed
  have hinitP : kP.init = .initialized := Cond.initialized_spec (findClass_of_methodNamed hnamed) hkP hinit
  obtain ⟨vm₁, X₁, hstep₁⟩ := X.invokestatic hexec hown hlink hnamed hmethM hstatic hkP hinitP hy (g := g) hg (argsL := argsL) (rest := rest) (hlen _ hsigM) hstack hdg
  obtain ⟨v, B, X', hpost, hsteps⟩ := hK m meth c ⟨T.setVm vm₁, locs, cells, slots⟩ { g with stack := rest } (.invokestatic index) mk argsL.toArray X₁ hg hsize hdg hW (X₁.named hnamed) (hpre vm₁ X₁.warmed)
  exact ⟨v, vm₁, B, X₁.warmed, X', hpost, fun target h => hstep₁ _ fun acts => by rw [doInvoke_state]; exact hsteps.trans h⟩
theorem vx_runSW {y : MethodName} {bytes cc : ByteArray} {maxL nL mc ms n index : Nat} {ret : Option FieldType} {hh : List (Nat × Nat × Nat × Nat)} {ws : List Cond} {rm : Room} {Pc : Array Value → State → Prop} {Qc : Array Value → State → Outcome → State → Prop} {free : Addr → Prop} {Ts : List Cond} {own : String} {As rest : List Value} {g : JFrame}
    (S : CallFix p m c cc nL s args Ts own) (hM : Met l y ws rm Pc Qc mc ms free) (cw : vx_CSW R s args own index y bytes maxL ret hh ws rm mc ms n) (hp : PreS s H Pc As)
    (hg : g.method = m) (hn : As.length = n) (hsize : g.locals.size = nL) (hstack : g.stack = As.reverse ++ rest) (hW : 2 * g.monitorRoom + (rest.map fun v => v.category).sum ≤ 8) (hdg : decode cc g.pc = .ok (.invokestatic index, 3)) (hf : cells + mc ≤ R.cells ∧ slots + ms ≤ R.slots) :
    va_Run p l e R s m args below meth c H locs cells slots mc ms g rest (Qc As.toArray) (free) := by
  obtain ⟨⟨hrc, hrs, hfr, hlo, hws, hcw⟩, hcode, hini, hy, hlen, hl, hstt⟩ := cw
  have hK : Back l R p e below s args y 3 8 (PreOf R mc ms Pc) (PostOf Qc mc ms free) := va_backW (hh := hh) (bytes := bytes) (maxL := maxL) (ret := ret) hM hp.1 hrc hrs hfr hlo hws hcw (fun a' U hW => word_at hW (Or.inl (by first | rfl | simp [Cond.onTables, Cond.keeps, Cond.steady])) hini)
  obtain ⟨hx, hb, hml, ho, -⟩ := S
  intro T hT X
  obtain ⟨v, vm₁, ⟨U', l2, c2, s2⟩, hW₁, X', ⟨g', mk, t, L, e1, e2, hq, h1, hL, h2, h3⟩, st⟩ := vx_callSW X hx (hh := hh) (bytes := bytes) (maxL := maxL) (ret := ret) ho hl hstt hini hcode hy hK hg (hsize.trans hml.symm) (argsL := As) (rest := rest) (fun sig h => hn.trans (hlen sig h)) hstack hW (by rw [hb]; exact hdg)
    (fun vm₁ hW₁ => ⟨hf.1, hf.2, hp.2 (T.setVm vm₁) hT hW₁⟩)
  dsimp only [Pt.U, Pt.locs, Pt.cells, Pt.slots] at X' e1 e2 h1 h2 h3 st
  subst h1; subst h2; subst h3
  exact ⟨v, (T.setVm vm₁).calling g' mk As.toArray, t, U', L, hT, X', hL, e1, e2, hq, st⟩
/-- not caught here, past rows that name other classes: it goes on to the caller -/
theorem vx_outP {p : Program} {l : Launch} {e : Env} {R : Room} {s : State} {m : MethodId} {args : Array Value} {below : List Frame} {meth : Method} {c : Code} {H : Heap} {locs : List Loc} {cells slots : Nat} {free : Addr → Prop} {ls : Array Slot} {rest : List Value} {Qc : Array Value → State → Outcome → State → Prop} {XC : String → State → State → Prop}
    {pc : Nat} {own E : String} {ce : Cell} {q : Addr} {mc ms : Nat} (hown : s.vm.findClass own = some m.cls) (hlocks : meth.locks = false)
    (hpass : ∀ z ∈ c.exceptionTable.toList, covers z pc = false ∨ (z.catchType ≠ 0 ∧ ∃ nm : String, (Cond.classLink own z.catchType nm).before args s = true ∧ va_Nc E nm s)) (hcell : H[q]? = some ce) (hv : ce.vm = .none) (hcl : s.vm.findClass E = some ce.cls)
    (hx : ∀ t : State, t.heap = H → s.vm.Alike t.vm → XC E s t) (hf : ∀ z ∈ locs, free z.base) (hc : cells ≤ mc) (hs : slots ≤ ms) :
    vx_W p l e R s m args below meth c H locs cells slots (vx_MQ below Qc XC args s mc ms free) (F0 m pc ls rest) q := by
  intro T hT X
  have hpl : e.platform.magicAccessors = ({} : Platform).magicAccessors := by rw [X.admits.platform]
  obtain ⟨vm', hW', X', st⟩ := X.outThrough hlocks q (g := F0 m pc ls rest) rfl rfl rfl (cell := ce) (by rw [hT]; exact hcell) (by rw [hv]; rfl)
    (by obtain ⟨k9, h9, -⟩ := Vm.findClass_spec hcl; exact ⟨k9, h9⟩) (fun z hz => by
      rcases hpass z hz with h | ⟨hz0, nm, hl1, hn1⟩
      · exact Or.inl h
      · obtain ⟨c6, hc6, hcl6⟩ := Cond.classLink_spec hown hl1 e.platform hpl
        obtain ⟨a8, b8, h1, h2, h3⟩ := hn1
        cases Option.some.inj (h1.symm.trans hcl)
        cases Option.some.inj (h2.symm.trans hc6)
        exact Or.inr ⟨hz0, _, hcl6, h3⟩)
  obtain ⟨g₀, hfr⟩ := X'.frames_eq
  have hcell9 : ((T.setVm vm').setFrames (.throwing q :: below)).heap[q]? = some ce := by
    show T.heap[q]? = some ce
    rw [hT]; exact hcell
  have hend : Ended ((T.setVm vm').setFrames (.throwing q :: below)) below (.threw q) := State.frames_setFrames _ (State.cur_lt_of_frames hfr)
  refine ⟨(T.setVm vm').setFrames (.throwing q :: below), ?_, .threw q, X'.here.running, hend, Or.inr ⟨q, rfl, E, ce, locs, hx _ hT (X'.ends _).1.alike, hcell9, hv, hcl, (X'.ends _).1, (X'.ends _).2.mono hc hs, hf⟩⟩
  rw [X.pushThrowing_eq]
  exact st
/-- a thing of a world lies in the heap -/
theorem vx_lt {D : va_G} {cl : List vw_C} {ws : va_W} {H1 : Heap} (h : va_P D cl ws H1) {k : Nat} {q : Nat × va_E} (hk : ws[k]? = some q) : q.1 < H1.size := (h k q hk).lt
end VXS
/-! ===== END ===== -/
/-! ===== BEGIN methods with a table of their own: called by a name, returning or throwing ===== -/
section VXH
/-! vx_backW, vx_callVX, vx_callSX, vx_callVW, vx_runVW, vx_runVX, vx_runSX, vx_ofWH follow the same proofs as their sisters above (Free/Laws.lean, Shelf42/LK1.lean); vx_outP calls Shelf42/NT130.lean (outThrough). -/
section
variable {l : Launch} {R : Room} {p : Program} {e : Env} {below : List Frame} {s : State} {sargs : Array Value} {y : MethodName} {len W9 : Nat}
theorem vx_backW {ws : List Cond} {rm : Room} {Pc : Array Value → State → Prop} {Qc : Array Value → State → Outcome → State → Prop} {XC : String → State → State → Prop} {mc ms : Nat} {free : Addr → Prop} {bytes : ByteArray} {maxL : Nat} {ret : Option FieldType} {hh : List (Nat × Nat × Nat × Nat)}
    (hM : vx_Met l y ws rm Pc Qc XC mc ms free) (hblind : FrameBlind Pc) (hrc : rm.cells = mc) (hrs : rm.slots = ms)
    (hframes : rm.frames + 1 ≤ R.frames) (hlocals : W9 + (maxL + 11) + rm.locals ≤ R.locals)
    (hws : ∀ w ∈ ws, ∀ a' U, s.WarmedH U.vm → w.before a' U = true) (hcode : Cond.codeWith y bytes maxL ret hh ∈ ws) (hinit : ∀ a' U, s.WarmedH U.vm → (Cond.initialized y.cls).before a' U = true) :
    vx_Back l R p e below s sargs y len W9 (PreOf R mc ms Pc) (PostOf Qc mc ms free) (vx_Post XC mc ms free) := by
  intro m meth c A g ig mk a X hg hsize hdg hW hn hp
  have h1 : (headSpec ws rm).pre.before a A.U = true := atoms_intro fun w hw => hws w hw _ _ X.warmed
  have h2 : (Cond.codeWith y bytes maxL ret hh).before a A.U = true := hws _ hcode _ _ X.warmed
  have h3 : (Cond.initialized y.cls).before a A.U = true := hinit _ _ X.warmed
  have h4 : A.cells + (headSpec ws rm).room.cells ≤ R.cells := by rw [show (headSpec ws rm).room.cells = mc from hrc]; exact hp.1
  have h5 : A.slots + (headSpec ws rm).room.slots ≤ R.slots := by rw [show (headSpec ws rm).room.slots = ms from hrs]; exact hp.2.1
  have hPc : Pc a (A.U.calling g mk a) := hblind _ _ _ _ hp.2.2
  obtain ⟨U, Ls, c0, s0⟩ := A
  dsimp only [Pt.U, Pt.locs, Pt.cells, Pt.slots] at h1 h2 h3 h4 h5 X hn hPc ⊢
  obtain ⟨m9, methY, cY, hn9, hmY, hcY, -, hlY, -⟩ := Cond.codeWith_spec h2
  cases Option.some.inj (hn9.symm.trans hn)
  obtain ⟨kY, hkY, -⟩ := className_of_methodNamed hn
  have hinitY : kY.init = .initialized := Cond.initialized_spec (findClass_of_methodNamed hn) hkY h3
  have h : At U g.method c below := by rw [hg]; exact X.here
  have hlocals9 : W9 + (maxL + 11) + (headSpec ws rm).room.locals ≤ R.locals := hlocals
  have happ : (headSpec ws rm).appliesLoose y e.platform (U.calling g mk a) = true :=
    Spec.appliesLoose_calling (g := g) h hdg hn hkY hinitY
      (X.room_calling (g := g) (R' := (headSpec ws rm).room) hsize hmY hcY hframes (by rw [hlY]; omega) h4 h5) h1
  obtain ⟨mid, hmid⟩ := h.above
  have hfr : (U.setTop g).frames = (.java g :: mid) ++ below := by rw [State.frames_setTop' g h.top, hmid]; rfl
  obtain ⟨o, s₂, hsteps, -, hend, hq⟩ := Steps.callFree hM p X.admits X.cas X.clock (acts := []) hfr happ hPc trivial
  have hq' : vx_Q Qc XC mc ms free a (U.calling g mk a) o s₂ := hq
  rw [State.frames_setTop' g h.top] at hend
  obtain ⟨g₀, hg0⟩ := Option.isSome_iff_exists.mp h.top
  obtain ⟨r, hr⟩ := State.topJava?_eq_some.mp hg0
  have hr' : (({ U with heap := s₂.heap, slotsUsed := s₂.slotsUsed } : State).setVm s₂.vm).frames = .java g₀ :: r := hr
  rcases hq' with ⟨hqc, L, hfe, hL⟩ | ⟨q, rfl, E, ce, L, hx, hce, hcv, hcl, hW₂, hsm, hL⟩
  · obtain ⟨⟨v, rfl⟩, hW₂, e2, q2, q3, q4, q5, q6⟩ := id hfe
    have e3 : s₂ = ({ (U.calling g mk a).setFrames s₂.frames with heap := s₂.heap, slotsUsed := s₂.slotsUsed } : State).setVm s₂.vm := by
      have : s₂ = ({ s₂ with vm := (U.calling g mk a).vm } : State).setVm s₂.vm := rfl
      rw [e2] at this
      exact this
    obtain ⟨c₂, i₂, len₂, hc₂, hd₂, hf₂⟩ := hend
    have hW' : U.WarmedH s₂.vm := hW₂
    have hcc : c₂ = c := by
      have h1 : s₂.code? g.method = U.code? g.method := by
        rw [State.code?_eq, State.code?_eq, hW'.alike.method?]
      exact Option.some.inj (hc₂.symm.trans (h1.trans h.code))
    subst hcc
    have hlen : len₂ = len := by rw [hdg] at hd₂; cases hd₂; rfl
    subst hlen
    have hs₂ : s₂ = (({ U with heap := s₂.heap, slotsUsed := s₂.slotsUsed } : State).setVm s₂.vm).setTop { g with pc := g.pc + len₂, stack := v.toList ++ g.stack } := by
      refine e3.trans ?_
      rw [hf₂, State.calling_eq h.top, State.setFrames_setFrames, State.setTop_of_frames _ hr', hr]
      rfl
    have hsame : U.sameButNew ({ U with heap := s₂.heap, slotsUsed := s₂.slotsUsed } : State) L mc ms := by
      refine ⟨?_, q2, q3, q4, q5, q6⟩
      obtain ⟨t, ht, -⟩ := State.frames_cons hr
      show ({ U with heap := s₂.heap, slotsUsed := s₂.slotsUsed } : State) = { U.setFrames U.frames with heap := s₂.heap, slotsUsed := s₂.slotsUsed }
      rw [State.setFrames_self ht]
    subst hg
    refine Or.inl ⟨v, ⟨(({ U with heap := s₂.heap, slotsUsed := s₂.slotsUsed } : State).setVm s₂.vm), Ls ++ L, c0 + mc, s0 + ms⟩,
      ⟨X.admits, X.cas, X.clock, X.frames, X.room, X.hears, X.method, X.code, (X.here.setHeapUsed s₂.heap s₂.slotsUsed).setVm hW'.alike, X.tail, State.WarmedH.trans X.warmed hW', X.limits, X.bytes, X.same.trans (hsame.setVm s.vm)⟩,
      ⟨g, mk, s₂, L, rfl, rfl, hqc, rfl, hL, rfl, rfl⟩, ?_⟩
    show Steps p.tables e below _ ((({ U with heap := s₂.heap, slotsUsed := s₂.slotsUsed } : State).setVm s₂.vm).setTop { g with pc := g.pc + len₂, stack := v.toList ++ g.stack })
    rw [← hs₂]
    exact hsteps
  · obtain ⟨e2, q2, q3, q4, q5, q6⟩ := id hsm
    have e3 : s₂ = ({ (U.calling g mk a).setFrames s₂.frames with heap := s₂.heap, slotsUsed := s₂.slotsUsed } : State).setVm s₂.vm := by
      have : s₂ = ({ s₂ with vm := (U.calling g mk a).vm } : State).setVm s₂.vm := rfl
      rw [e2] at this
      exact this
    have hf₂ : s₂.frames = .throwing q :: .java g :: U.frames.tail := hend
    have hW' : U.WarmedH s₂.vm := hW₂
    have hs₂ : s₂ = ((({ U with heap := s₂.heap, slotsUsed := s₂.slotsUsed } : State).setVm s₂.vm).setTop g).pushFrame (.throwing q) := by
      refine e3.trans ?_
      rw [hf₂, State.calling_eq h.top, State.setFrames_setFrames, State.pushFrame, State.frames_setTop _ hr', State.setTop_of_frames _ hr', State.setFrames_setFrames, hr]
      rfl
    have hsame : U.sameButNew ({ U with heap := s₂.heap, slotsUsed := s₂.slotsUsed } : State) L mc ms := by
      refine ⟨?_, q2, q3, q4, q5, q6⟩
      obtain ⟨t, ht, -⟩ := State.frames_cons hr
      show ({ U with heap := s₂.heap, slotsUsed := s₂.slotsUsed } : State) = { U.setFrames U.frames with heap := s₂.heap, slotsUsed := s₂.slotsUsed }
      rw [State.setFrames_self ht]
    subst hg
    refine Or.inr ⟨q, ⟨(({ U with heap := s₂.heap, slotsUsed := s₂.slotsUsed } : State).setVm s₂.vm), Ls ++ L, c0 + mc, s0 + ms⟩,
      ⟨X.admits, X.cas, X.clock, X.frames, X.room, X.hears, X.method, X.code, (X.here.setHeapUsed s₂.heap s₂.slotsUsed).setVm hW'.alike, X.tail, State.WarmedH.trans X.warmed hW', X.limits, X.bytes, X.same.trans (hsame.setVm s.vm)⟩,
      ⟨g, mk, s₂, L, E, ce, rfl, rfl, hx, hce, hcv, hcl, rfl, hL, rfl, rfl⟩, ?_⟩
    show Steps p.tables e below _ (((({ U with heap := s₂.heap, slotsUsed := s₂.slotsUsed } : State).setVm s₂.vm).setTop g).pushFrame (.throwing q))
    rw [← hs₂]
    exact hsteps
end
variable {p : Program} {l : Launch} {e : Env} {R : Room} {s : State} {m : MethodId} {args : Array Value} {below : List Frame} {meth : Method} {c : Code} {T : State} {H : Heap} {locs : List Loc} {cells slots : Nat}
theorem vx_callVX (X : Stand p l e R s m args below meth c T locs cells slots) (hexec : p.tables.exec = Jvm.exec) {own C : String} {index : Nat} {y : MethodName} {bytes : ByteArray} {maxL : Nat} {ret : Option FieldType} {hh : List (Nat × Nat × Nat × Nat)}
    (hown : s.vm.findClass own = some m.cls) (hlink : (Cond.methodLink own index y).before args s = true) (hinst : (Cond.instanceMethod y).before args s = true) (hsel : (Cond.selects C y y).before args s = true)
    (hcode : (Cond.codeWith y bytes maxL ret hh).before args s = true) (hy : y.cls ≠ "java/lang/invoke/MethodHandle" ∧ y.cls ≠ "java/lang/invoke/VarHandle")
    {W9 : Nat} {Pre : Pt → Array Value → Prop} {Post : Pt → Array Value → Option Value → Pt → Prop} {PostX : Pt → Array Value → Addr → Pt → Prop} (hK : vx_Back l R p e below s args y 3 W9 Pre Post PostX)
    {b : Addr} {cellB : Cell} (hcell : T.heap[b]? = some cellB) (hobj : cellB.vm.isStatics = false) (hcls : s.vm.findClass C = some cellB.cls)
    {g : JFrame} (hg : g.method = m) (hsize : g.locals.size = c.maxLocals) {argsL rest : List Value} (hlen : ∀ sig, parseMethodDescriptor y.desc = some sig → argsL.length = sig.parameters.length)
    (hstack : g.stack = argsL.reverse ++ .ref b :: rest) (hW : 2 * g.monitorRoom + (rest.map fun v => v.category).sum ≤ W9) (hdg : decode c.code g.pc = .ok (.invokevirtual index, 3))
    (hpre : ∀ vm₁, s.WarmedH vm₁ → Pre ⟨T.setVm vm₁, locs, cells, slots⟩ (Value.ref b :: argsL).toArray) :
    (∃ (v : Option Value) (vm₁ : Vm) (B : Pt), s.WarmedH vm₁ ∧ Stand p l e R s m args below meth c B.U B.locs B.cells B.slots ∧ Post ⟨T.setVm vm₁, locs, cells, slots⟩ (Value.ref b :: argsL).toArray v B ∧
      ∀ target, Steps p.tables e below (B.U.setTop { g with pc := g.pc + 3, stack := v.toList ++ rest }) target → Steps p.tables e below (T.setTop g) target) ∨
    (∃ (q : Addr) (vm₁ : Vm) (B : Pt), s.WarmedH vm₁ ∧ Stand p l e R s m args below meth c B.U B.locs B.cells B.slots ∧ PostX ⟨T.setVm vm₁, locs, cells, slots⟩ (Value.ref b :: argsL).toArray q B ∧
      Steps p.tables e below (T.setTop g) ((B.U.setTop { g with stack := rest }).pushFrame (.throwing q))) := by
  obtain ⟨mk, methM, hnamed, hmethM, hstM, habM⟩ := Cond.instanceMethod_spec hinst
  obtain ⟨m8, methM', cM, hn8, hmethM', -, -, -, -, -, -, hsigM⟩ := Cond.codeWith_spec hcode
  cases Option.some.inj (hn8.symm.trans hnamed)
  cases hmethM.symm.trans hmethM'
  obtain ⟨c2, r2, m2, q1, q2, q3, q4, kP, hkP, hkPi⟩ := Cond.selects_spec hsel
  cases hcls.symm.trans q1
  cases (State.methodFound?_of_named hnamed hy).symm.trans q2
  cases hnamed.symm.trans q3
  have hselP : selectMethod e.platform s.vm cellB.cls mk = .method mk := by rw [Launch.admits_selectMethod X.admits]; exact q4
  obtain ⟨vm₁, X₁, hstep₁⟩ := X.invokevirtual hexec hown hlink hnamed hmethM hstM hkP hkPi hy (a := b) (cell := cellB) hcell
    (fun z h => by rw [h] at hobj; cases hobj) hselP hmethM habM hkP hkPi (g := g) hg (argsL := argsL) (rest := rest) (hlen _ hsigM) hstack hdg
  rcases hK m meth c ⟨T.setVm vm₁, locs, cells, slots⟩ { g with stack := rest } (.invokevirtual index) mk (Value.ref b :: argsL).toArray X₁ hg hsize hdg hW (X₁.named hnamed) (hpre vm₁ X₁.warmed) with ⟨v, B, X', hpost, hsteps⟩ | ⟨q, B, X', hpost, hsteps⟩
  · exact Or.inl ⟨v, vm₁, B, X₁.warmed, X', hpost, fun target h => hstep₁ _ fun acts => by rw [doInvoke_state]; exact hsteps.trans h⟩
  · exact Or.inr ⟨q, vm₁, B, X₁.warmed, X', hpost, hstep₁ _ fun acts => by rw [doInvoke_state]; exact hsteps⟩
theorem vx_callSX (X : Stand p l e R s m args below meth c T locs cells slots) (hexec : p.tables.exec = Jvm.exec) {own : String} {index : Nat} {y : MethodName} {bytes : ByteArray} {maxL : Nat} {ret : Option FieldType} {hh : List (Nat × Nat × Nat × Nat)}
    (hown : s.vm.findClass own = some m.cls) (hlink : (Cond.methodLink own index y).before args s = true) (hstat : (Cond.static y).before args s = true) (hinit : (Cond.initialized y.cls).before args s = true)
    (hcode : (Cond.codeWith y bytes maxL ret hh).before args s = true) (hy : y.cls ≠ "java/lang/invoke/MethodHandle" ∧ y.cls ≠ "java/lang/invoke/VarHandle")
    {W9 : Nat} {Pre : Pt → Array Value → Prop} {Post : Pt → Array Value → Option Value → Pt → Prop} {PostX : Pt → Array Value → Addr → Pt → Prop} (hK : vx_Back l R p e below s args y 3 W9 Pre Post PostX)
    {g : JFrame} (hg : g.method = m) (hsize : g.locals.size = c.maxLocals) {argsL rest : List Value} (hlen : ∀ sig, parseMethodDescriptor y.desc = some sig → argsL.length = sig.parameters.length)
    (hstack : g.stack = argsL.reverse ++ rest) (hW : 2 * g.monitorRoom + (rest.map fun v => v.category).sum ≤ W9) (hdg : decode c.code g.pc = .ok (.invokestatic index, 3))
    (hpre : ∀ vm₁, s.WarmedH vm₁ → Pre ⟨T.setVm vm₁, locs, cells, slots⟩ argsL.toArray) :
    (∃ (v : Option Value) (vm₁ : Vm) (B : Pt), s.WarmedH vm₁ ∧ Stand p l e R s m args below meth c B.U B.locs B.cells B.slots ∧ Post ⟨T.setVm vm₁, locs, cells, slots⟩ argsL.toArray v B ∧
      ∀ target, Steps p.tables e below (B.U.setTop { g with pc := g.pc + 3, stack := v.toList ++ rest }) target → Steps p.tables e below (T.setTop g) target) ∨
    (∃ (q : Addr) (vm₁ : Vm) (B : Pt), s.WarmedH vm₁ ∧ Stand p l e R s m args below meth c B.U B.locs B.cells B.slots ∧ PostX ⟨T.setVm vm₁, locs, cells, slots⟩ argsL.toArray q B ∧
      Steps p.tables e below (T.setTop g) ((B.U.setTop { g with stack := rest }).pushFrame (.throwing q))) := by
  obtain ⟨mk, methM, cM, hnamed, hmethM, -, -, -, -, -, -, hsigM⟩ := Cond.codeWith_spec hcode
  have hstatic : methM.isStatic = true := Cond.static_spec hnamed hmethM hstat
  obtain ⟨kP, hkP, -⟩ := className_of_methodNamed hnamed
  have hinitP : kP.init = .initialized := Cond.initialized_spec (findClass_of_methodNamed hnamed) hkP hinit
  obtain ⟨vm₁, X₁, hstep₁⟩ := X.invokestatic hexec hown hlink hnamed hmethM hstatic hkP hinitP hy (g := g) hg (argsL := argsL) (rest := rest) (hlen _ hsigM) hstack hdg
  rcases hK m meth c ⟨T.setVm vm₁, locs, cells, slots⟩ { g with stack := rest } (.invokestatic index) mk argsL.toArray X₁ hg hsize hdg hW (X₁.named hnamed) (hpre vm₁ X₁.warmed) with ⟨v, B, X', hpost, hsteps⟩ | ⟨q, B, X', hpost, hsteps⟩
  · exact Or.inl ⟨v, vm₁, B, X₁.warmed, X', hpost, fun target h => hstep₁ _ fun acts => by rw [doInvoke_state]; exact hsteps.trans h⟩
  · exact Or.inr ⟨q, vm₁, B, X₁.warmed, X', hpost, hstep₁ _ fun acts => by rw [doInvoke_state]; exact hsteps⟩
theorem vx_callVW (X : Stand p l e R s m args below meth c T locs cells slots) (hexec : p.tables.exec = Jvm.exec) {own C : String} {index : Nat} {y : MethodName} {bytes : ByteArray} {maxL : Nat} {ret : Option FieldType} {hh : List (Nat × Nat × Nat × Nat)}
    (hown : s.vm.findClass own = some m.cls) (hlink : (Cond.methodLink own index y).before args s = true) (hinst : (Cond.instanceMethod y).before args s = true) (hsel : (Cond.selects C y y).before args s = true)
    (hcode : (Cond.codeWith y bytes maxL ret hh).before args s = true) (hy : y.cls ≠ "java/lang/invoke/MethodHandle" ∧ y.cls ≠ "java/lang/invoke/VarHandle")
    {W9 : Nat} {Pre : Pt → Array Value → Prop} {Post : Pt → Array Value → Option Value → Pt → Prop} (hK : Back l R p e below s args y 3 W9 Pre Post)
    {b : Addr} {cellB : Cell} (hcell : T.heap[b]? = some cellB) (hobj : cellB.vm.isStatics = false) (hcls : s.vm.findClass C = some cellB.cls)
    {g : JFrame} (hg : g.method = m) (hsize : g.locals.size = c.maxLocals) {argsL rest : List Value} (hlen : ∀ sig, parseMethodDescriptor y.desc = some sig → argsL.length = sig.parameters.length)
    (hstack : g.stack = argsL.reverse ++ .ref b :: rest) (hW : 2 * g.monitorRoom + (rest.map fun v => v.category).sum ≤ W9) (hdg : decode c.code g.pc = .ok (.invokevirtual index, 3))
    (hpre : ∀ vm₁, s.WarmedH vm₁ → Pre ⟨T.setVm vm₁, locs, cells, slots⟩ (Value.ref b :: argsL).toArray) :
    ∃ (v : Option Value) (vm₁ : Vm) (B : Pt), s.WarmedH vm₁ ∧ Stand p l e R s m args below meth c B.U B.locs B.cells B.slots ∧ Post ⟨T.setVm vm₁, locs, cells, slots⟩ (Value.ref b :: argsL).toArray v B ∧
      ∀ target, Steps p.tables e below (B.U.setTop { g with pc := g.pc + 3, stack := v.toList ++ rest }) target → Steps p.tables e below (T.setTop g) target := by
  obtain ⟨mk, methM, hnamed, hmethM, hstM, habM⟩ := Cond.instanceMethod_spec hinst
  obtain ⟨m8, methM', cM, hn8, hmethM', -, -, -, -, -, -, hsigM⟩ := Cond.codeWith_spec hcode
  cases Option.some.inj (hn8.symm.trans hnamed)
  cases hmethM.symm.trans hmethM'
  obtain ⟨c2, r2, m2, q1, q2, q3, q4, kP, hkP, hkPi⟩ := Cond.selects_spec hsel
  cases hcls.symm.trans q1
  cases (State.methodFound?_of_named hnamed hy).symm.trans q2
  cases hnamed.symm.trans q3
  have hselP : selectMethod e.platform s.vm cellB.cls mk = .method mk := by rw [Launch.admits_selectMethod X.admits]; exact q4
  obtain ⟨vm₁, X₁, hstep₁⟩ := X.invokevirtual hexec hown hlink hnamed hmethM hstM hkP hkPi hy (a := b) (cell := cellB) hcell
    (fun z h => by rw [h] at hobj; cases hobj) hselP hmethM habM hkP hkPi (g := g) hg (argsL := argsL) (rest := rest) (hlen _ hsigM) hstack hdg
  obtain ⟨v, B, X', hpost, hsteps⟩ := hK m meth c ⟨T.setVm vm₁, locs, cells, slots⟩ { g with stack := rest } (.invokevirtual index) mk (Value.ref b :: argsL).toArray X₁ hg hsize hdg hW (X₁.named hnamed) (hpre vm₁ X₁.warmed)
  exact ⟨v, vm₁, B, X₁.warmed, X', hpost, fun target h => hstep₁ _ fun acts => by rw [doInvoke_state]; exact hsteps.trans h⟩
abbrev vx_CVW (R : Room) (s : State) (args : Array Value) (own C : String) (index : Nat) (y : MethodName) (bytes : ByteArray) (maxL : Nat) (ret : Option FieldType) (hh : List (Nat × Nat × Nat × Nat)) (ws : List Cond) (rm : Room) (mc ms n : Nat) : Prop :=
  (rm.cells = mc ∧ rm.slots = ms ∧ rm.frames + 1 ≤ R.frames ∧ 8 + (maxL + 11) + rm.locals ≤ R.locals ∧ (∀ w ∈ ws, ∀ (a' : Array Value) (U : State), s.WarmedH U.vm → w.before a' U = true) ∧ Cond.codeWith y bytes maxL ret hh ∈ ws) ∧
  (Cond.codeWith y bytes maxL ret hh).before args s = true ∧ (Cond.initialized y.cls).before args s = true ∧ (y.cls ≠ "java/lang/invoke/MethodHandle" ∧ y.cls ≠ "java/lang/invoke/VarHandle") ∧
  (∀ sig, parseMethodDescriptor y.desc = some sig → n = sig.parameters.length) ∧ (Cond.methodLink own index y).before args s = true ∧ (Cond.instanceMethod y).before args s = true ∧ (Cond.selects C y y).before args s = true
theorem vx_cwVW {own C : String} {index maxL mc ms : Nat} {y : MethodName} {bytes : ByteArray} {ret : Option FieldType} {hh : List (Nat × Nat × Nat × Nat)} {Ts ws ws' : List Cond} {rm : Room} (n : Nat) (ht : ∀ w ∈ Ts, w.before args s = true) (hT : GoodIn Ts (wsV own index C y ws)) (hw : ws = Cond.codeWith y bytes maxL ret hh :: ws') (hrc : rm.cells = mc) (hrs : rm.slots = ms)
    (hd : y.cls = C ∧ y.cls ≠ "java/lang/invoke/MethodHandle" ∧ y.cls ≠ "java/lang/invoke/VarHandle" ∧ (parseMethodDescriptor y.desc).map (fun d => d.parameters.length) = some n) (hR : rm.frames + 1 ≤ R.frames ∧ 8 + (maxL + 11) + rm.locals ≤ R.locals) :
    vx_CVW R s args own C index y bytes maxL ret hh ws rm mc ms n := by
  obtain ⟨hC, hd⟩ := hd
  subst hC
  have ok : ∀ w ∈ wsV own index y.cls y ws, w.before args s = true := fun w h => ht w (hT w h).1
  have hG : GoodIn Ts ws := fun w h => hT w (by unfold wsV; exact List.mem_append_right _ h)
  have hc : Cond.codeWith y bytes maxL ret hh ∈ ws := by rw [hw]; exact List.mem_cons_self
  refine ⟨⟨hrc, hrs, hR.1, hR.2, pay_in ht hG, hc⟩, ht _ (hG _ hc).1, ok _ (by simp [wsV]), ⟨hd.1, hd.2.1⟩, fun sig h => ?_, ok _ (by simp [wsV]), ok _ (by simp [wsV]), ok _ (by simp [wsV])⟩
  have h2 := hd.2.2
  rw [h] at h2
  exact (Option.some.inj h2).symm
theorem vx_runVW {y : MethodName} {bytes cc : ByteArray} {maxL nL mc ms n index : Nat} {ret : Option FieldType} {hh : List (Nat × Nat × Nat × Nat)} {ws : List Cond} {rm : Room} {Pc : Array Value → State → Prop} {Qc : Array Value → State → Outcome → State → Prop} {free : Addr → Prop} {Ts : List Cond} {own C : String} {b : Addr} {As rest : List Value} {g : JFrame}
    (S : CallFix p m c cc nL s args Ts own) (hM : Met l y ws rm Pc Qc mc ms free) (cw : vx_CVW R s args own C index y bytes maxL ret hh ws rm mc ms n) (hp : PreV s H C b Pc As)
    (hg : g.method = m) (hn : As.length = n) (hsize : g.locals.size = nL) (hstack : g.stack = As.reverse ++ .ref b :: rest) (hW : 2 * g.monitorRoom + (rest.map fun v => v.category).sum ≤ 8) (hdg : decode cc g.pc = .ok (.invokevirtual index, 3)) (hf : cells + mc ≤ R.cells ∧ slots + ms ≤ R.slots) :
    va_Run p l e R s m args below meth c H locs cells slots mc ms g rest (Qc (Value.ref b :: As).toArray) free := by
  obtain ⟨⟨hrc, hrs, hfr, hlo, hws, hcw⟩, hcode, hini, hy, hlen, hl, hin, hse⟩ := cw
  have hK : Back l R p e below s args y 3 8 (PreOf R mc ms Pc) (PostOf Qc mc ms free) := va_backW (hh := hh) (bytes := bytes) (maxL := maxL) (ret := ret) hM hp.1 hrc hrs hfr hlo hws hcw (fun a' U hW => word_at hW (Or.inl (by first | rfl | simp [Cond.onTables, Cond.keeps, Cond.steady])) hini)
  obtain ⟨hx, hb, hml, ho, -⟩ := S
  obtain ⟨-, ⟨cellB, hcB, hoB, hclB⟩, hPc⟩ := hp
  intro T hT X
  obtain ⟨v, vm₁, ⟨U', l2, c2, s2⟩, hW₁, X', ⟨g', mk, t, L, e1, e2, hq, h1, hL, h2, h3⟩, st⟩ := vx_callVW X hx (C := C) (hh := hh) (bytes := bytes) (maxL := maxL) (ret := ret) ho hl hin hse hcode hy hK (by rw [hT]; exact hcB) hoB hclB hg (hsize.trans hml.symm) (argsL := As) (rest := rest) (fun sig h => hn.trans (hlen sig h)) hstack hW (by rw [hb]; exact hdg)
    (fun vm₁ hW₁ => ⟨hf.1, hf.2, hPc (T.setVm vm₁) hT hW₁⟩)
  dsimp only [Pt.U, Pt.locs, Pt.cells, Pt.slots] at X' e1 e2 h1 h2 h3 st
  subst h1; subst h2; subst h3
  exact ⟨v, (T.setVm vm₁).calling g' mk (Value.ref b :: As).toArray, t, U', L, hT, X', hL, e1, e2, hq, st⟩
section
variable {y : MethodName} {bytes cc : ByteArray} {maxL nL mc ms n index : Nat} {ret : Option FieldType} {ws : List Cond} {rm : Room} {Pc : Array Value → State → Prop} {Qc : Array Value → State → Outcome → State → Prop} {XC : String → State → State → Prop} {free : Addr → Prop} {Ts : List Cond} {own C : String} {b : Addr} {As rest : List Value} {g : JFrame}
theorem vx_runVX {hh : List (Nat × Nat × Nat × Nat)} (S : CallFix p m c cc nL s args Ts own) (hM : vx_Met l y ws rm Pc Qc XC mc ms free) (cw : vx_CVW R s args own C index y bytes maxL ret hh ws rm mc ms n) (hp : PreV s H C b Pc As)
    (hg : g.method = m) (hn : As.length = n) (hsize : g.locals.size = nL) (hstack : g.stack = As.reverse ++ .ref b :: rest) (hW : 2 * g.monitorRoom + (rest.map fun v => v.category).sum ≤ 8) (hdg : decode cc g.pc = .ok (.invokevirtual index, 3)) (hf : cells + mc ≤ R.cells ∧ slots + ms ≤ R.slots) :
    vx_Run p l e R s m args below meth c H locs cells slots mc ms g rest (Qc (Value.ref b :: As).toArray) XC free := by
  obtain ⟨⟨hrc, hrs, hfr, hlo, hws, hcw⟩, hcode, hini, hy, hlen, hl, hin, hse⟩ := cw
  have hK : vx_Back l R p e below s args y 3 8 (PreOf R mc ms Pc) (PostOf Qc mc ms free) (vx_Post XC mc ms free) := vx_backW (hh := hh) (bytes := bytes) (maxL := maxL) (ret := ret) hM hp.1 hrc hrs hfr hlo hws hcw (fun a' U hW => word_at hW (Or.inl (by first | rfl | simp [Cond.onTables, Cond.keeps, Cond.steady])) hini)
  obtain ⟨hx, hb, hml, ho, -⟩ := S
  obtain ⟨-, ⟨cellB, hcB, hoB, hclB⟩, hPc⟩ := hp
  intro T hT X
  rcases vx_callVX X hx (C := C) (hh := hh) (bytes := bytes) (maxL := maxL) (ret := ret) ho hl hin hse hcode hy hK (by rw [hT]; exact hcB) hoB hclB hg (hsize.trans hml.symm) (argsL := As) (rest := rest) (fun sig h => hn.trans (hlen sig h)) hstack hW (by rw [hb]; exact hdg)
    (fun vm₁ hW₁ => ⟨hf.1, hf.2, hPc (T.setVm vm₁) hT hW₁⟩) with ⟨v, vm₁, ⟨U', l2, c2, s2⟩, hW₁, X', ⟨g', mk, t, L, e1, e2, hq, h1, hL, h2, h3⟩, st⟩ | ⟨q, vm₁, ⟨U', l2, c2, s2⟩, hW₁, X', ⟨g', mk, t, L, E, ce, e1, e2, hq, hce, hcv, hcl, h1, hL, h2, h3⟩, st⟩
  · dsimp only [Pt.U, Pt.locs, Pt.cells, Pt.slots] at X' e1 e2 h1 h2 h3 st
    subst h1; subst h2; subst h3
    exact Or.inl ⟨v, (T.setVm vm₁).calling g' mk (Value.ref b :: As).toArray, t, U', L, hT, X', hL, e1, e2, hq, st⟩
  · dsimp only [Pt.U, Pt.locs, Pt.cells, Pt.slots] at X' e1 e2 h1 h2 h3 st hcl
    subst h1; subst h2; subst h3
    exact Or.inr ⟨q, (T.setVm vm₁).calling g' mk (Value.ref b :: As).toArray, t, U', L, E, ce, hT, X', hL, e1, e2, hq, hce, hcv, vx_cls hW₁ hcl, st⟩
theorem vx_runSX {hh : List (Nat × Nat × Nat × Nat)} (S : CallFix p m c cc nL s args Ts own) (hM : vx_Met l y ws rm Pc Qc XC mc ms free) (cw : vx_CSW R s args own index y bytes maxL ret hh ws rm mc ms n) (hp : PreS s H Pc As)
    (hg : g.method = m) (hn : As.length = n) (hsize : g.locals.size = nL) (hstack : g.stack = As.reverse ++ rest) (hW : 2 * g.monitorRoom + (rest.map fun v => v.category).sum ≤ 8) (hdg : decode cc g.pc = .ok (.invokestatic index, 3)) (hf : cells + mc ≤ R.cells ∧ slots + ms ≤ R.slots) :
    vx_Run p l e R s m args below meth c H locs cells slots mc ms g rest (Qc As.toArray) XC free := by
  obtain ⟨⟨hrc, hrs, hfr, hlo, hws, hcw⟩, hcode, hini, hy, hlen, hl, hstt⟩ := cw
  have hK : vx_Back l R p e below s args y 3 8 (PreOf R mc ms Pc) (PostOf Qc mc ms free) (vx_Post XC mc ms free) := vx_backW (hh := hh) (bytes := bytes) (maxL := maxL) (ret := ret) hM hp.1 hrc hrs hfr hlo hws hcw (fun a' U hW => word_at hW (Or.inl (by first | rfl | simp [Cond.onTables, Cond.keeps, Cond.steady])) hini)
  obtain ⟨hx, hb, hml, ho, -⟩ := S
  intro T hT X
  rcases vx_callSX X hx (hh := hh) (bytes := bytes) (maxL := maxL) (ret := ret) ho hl hstt hini hcode hy hK hg (hsize.trans hml.symm) (argsL := As) (rest := rest) (fun sig h => hn.trans (hlen sig h)) hstack hW (by rw [hb]; exact hdg)
    (fun vm₁ hW₁ => ⟨hf.1, hf.2, hp.2 (T.setVm vm₁) hT hW₁⟩) with ⟨v, vm₁, ⟨U', l2, c2, s2⟩, hW₁, X', ⟨g', mk, t, L, e1, e2, hq, h1, hL, h2, h3⟩, st⟩ | ⟨q, vm₁, ⟨U', l2, c2, s2⟩, hW₁, X', ⟨g', mk, t, L, E, ce, e1, e2, hq, hce, hcv, hcl, h1, hL, h2, h3⟩, st⟩
  · dsimp only [Pt.U, Pt.locs, Pt.cells, Pt.slots] at X' e1 e2 h1 h2 h3 st
    subst h1; subst h2; subst h3
    exact Or.inl ⟨v, (T.setVm vm₁).calling g' mk As.toArray, t, U', L, hT, X', hL, e1, e2, hq, st⟩
  · dsimp only [Pt.U, Pt.locs, Pt.cells, Pt.slots] at X' e1 e2 h1 h2 h3 st hcl
    subst h1; subst h2; subst h3
    exact Or.inr ⟨q, (T.setVm vm₁).calling g' mk As.toArray, t, U', L, E, ce, hT, X', hL, e1, e2, hq, hce, hcv, vx_cls hW₁ hcl, st⟩
end
end VXH
theorem vx_ofWH {l : Launch} {y : MethodName} {ws ws' : List Cond} {rm : Room} {Pc : Array Value → State → Prop} {Qc : Array Value → State → Outcome → State → Prop} {XC : String → State → State → Prop} {mc ms : Nat} {free : Addr → Prop} {cc : ByteArray} {maxL : Nat} {ret : Option FieldType} {hh : List (Nat × Nat × Nat × Nat)}
    (hy : plainName y.cls = true) (hw : ws = Cond.codeWith y cc maxL ret hh :: ws')
    (body : ∀ p e s m args below meth c s₁, BodyLoose p l y (headSpec ws rm) cc maxL ret e s m args below meth c s₁ → c.maxLocals = maxL → Pc args s →
      W p l e (headSpec ws rm).room s m args below meth c s.heap [] 0 0 (vx_MQ below Qc XC args s mc ms free) (entryFrame m args maxL)) : vx_Met l y ws rm Pc Qc XC mc ms free := by
  refine MetFree.of_bodyS (code := cc) (maxLocals := maxL) (ret := ret) hy ?_ ?_
  · intro args s m h hn
    obtain ⟨m9, meth, c, hn9, h1, h2, h3, h4, -, h5, h6, -⟩ := Cond.codeWith_spec (atoms_spec (ws := ws) h _ (by rw [hw]; exact List.mem_cons_self))
    cases hn.symm.trans hn9
    exact ⟨meth, c, h1, h2, h3, h4, h5, h6⟩
  · intro p e s m args below meth c s₁ B hml hP _
    have hh0 : s₁.heap = s.heap := by rw [B.state]; rfl
    obtain ⟨t, a1, o, b1, b2, b3⟩ := body p e s m args below meth c s₁ B hml hP s₁ hh0 (Stand.of_body B)
    exact ⟨t, o, a1, b1, b2, b3⟩
/-! ===== END ===== -/
/-! ===== BEGIN a constructor that throws (launches without stack traces) ===== -/
section VXIA
variable {p : Program} {l : Launch} {e : Env} {R : Room} {s : State} {m : MethodId} {args : Array Value} {below : List Frame} {meth : Method} {c : Code} {T : State} {locs : List Loc} {cells slots : Nat}
theorem vx_callI (X : Stand p l e R s m args below meth c T locs cells slots) (hexec : p.tables.exec = Jvm.exec) {own : String} {index : Nat} {y : MethodName} {bytes : ByteArray} {maxL : Nat}
    (hown : s.vm.findClass own = some m.cls) (hy1 : y.name = "<init>") (hlink : (Cond.methodLink own index y).before args s = true) (hinst : (Cond.instanceMethod y).before args s = true)
    (hcode : (Cond.code y bytes maxL none).before args s = true) (hy : y.cls ≠ "java/lang/invoke/MethodHandle" ∧ y.cls ≠ "java/lang/invoke/VarHandle")
    {W9 : Nat} {Pre : Pt → Array Value → Prop} {Post : Pt → Array Value → Option Value → Pt → Prop} {PostX : Pt → Array Value → Addr → Pt → Prop} (hK : vx_Back l R p e below s args y 3 W9 Pre Post PostX)
    {g : JFrame} (hg : g.method = m) (hsize : g.locals.size = c.maxLocals) {a : Addr} {argsL rest : List Value} (hlen : ∀ sig, parseMethodDescriptor y.desc = some sig → argsL.length = sig.parameters.length)
    (hstack : g.stack = argsL.reverse ++ .ref a :: rest) (hW : 2 * g.monitorRoom + (rest.map fun v => v.category).sum ≤ W9) (hdg : decode c.code g.pc = .ok (.invokespecial index, 3))
    (hpre : ∀ vm₁, s.WarmedH vm₁ → Pre ⟨T.setVm vm₁, locs, cells, slots⟩ (Value.ref a :: argsL).toArray) :
    (∃ (v : Option Value) (vm₁ : Vm) (B : Pt), s.WarmedH vm₁ ∧ Stand p l e R s m args below meth c B.U B.locs B.cells B.slots ∧ Post ⟨T.setVm vm₁, locs, cells, slots⟩ (Value.ref a :: argsL).toArray v B ∧
      ∀ target, Steps p.tables e below (B.U.setTop { g with pc := g.pc + 3, stack := v.toList ++ rest }) target → Steps p.tables e below (T.setTop g) target) ∨
    (∃ (q : Addr) (vm₁ : Vm) (B : Pt), s.WarmedH vm₁ ∧ Stand p l e R s m args below meth c B.U B.locs B.cells B.slots ∧ PostX ⟨T.setVm vm₁, locs, cells, slots⟩ (Value.ref a :: argsL).toArray q B ∧
      Steps p.tables e below (T.setTop g) ((B.U.setTop { g with stack := rest }).pushFrame (.throwing q))) := by
  subst hg
  have hpl : e.platform.magicAccessors = ({} : Platform).magicAccessors := by rw [X.admits.platform]
  obtain ⟨mk, methM, cM, kP, vm₁, hnamed, hmethM, hcodeM, -, hlocalsM, -, hkP, -, hW₁, hstep₁⟩ := Steps.initColdArgs (e := e) X.here hexec X.warmed hpl hown hy1 hy hlink hinst hcode (f := g) rfl hlen hstack hdg
  have X₁ := X.noted hW₁
  rcases hK g.method meth c ⟨T.setVm vm₁, locs, cells, slots⟩ { g with stack := rest } (.invokespecial index) mk (Value.ref a :: argsL).toArray X₁ rfl hsize hdg hW (X₁.named hnamed) (hpre vm₁ X₁.warmed) with ⟨v, B, X', hpost, hsteps⟩ | ⟨q, B, X', hpost, hsteps⟩
  · exact Or.inl ⟨v, vm₁, B, X₁.warmed, X', hpost, fun target h => hstep₁ _ fun acts => by rw [doInvoke_state]; exact hsteps.trans h⟩
  · exact Or.inr ⟨q, vm₁, B, X₁.warmed, X', hpost, hstep₁ _ fun acts => by rw [doInvoke_state]; exact hsteps⟩
end VXIA
section VXIB
variable {p : Program} {l : Launch} {e : Env} {R : Room} {s : State} {m : MethodId} {args : Array Value} {below : List Frame} {meth : Method} {c : Code} {H : Heap} {locs : List Loc} {cells slots : Nat}
variable {y : MethodName} {bytes cc : ByteArray} {maxL nL mc ms n index : Nat} {ret : Option FieldType} {ws : List Cond} {rm : Room} {Pc : Array Value → State → Prop} {Qc : Array Value → State → Outcome → State → Prop} {XC : String → State → State → Prop} {free : Addr → Prop} {Ts : List Cond} {own C : String} {b : Addr} {As rest : List Value} {g : JFrame}
theorem vx_runI (S : CallFix p m c cc nL s args Ts own) (hM : vx_Met l y ws rm Pc Qc XC mc ms free) (cw : CallB R s args own index y bytes maxL none ws rm mc ms n ∧ y.name = "<init>" ∧ (Cond.instanceMethod y).before args s = true) (hp : PreS s H Pc (.ref b :: As))
    (hg : g.method = m) (hn : As.length = n) (hsize : g.locals.size = nL) (hstack : g.stack = As.reverse ++ .ref b :: rest) (hW : 2 * g.monitorRoom + (rest.map fun v => v.category).sum ≤ 8) (hdg : decode cc g.pc = .ok (.invokespecial index, 3)) (hf : cells + mc ≤ R.cells ∧ slots + ms ≤ R.slots) :
    vx_Run p l e R s m args below meth c H locs cells slots mc ms g rest (Qc (Value.ref b :: As).toArray) XC free := by
  have hK : vx_Back l R p e below s args y 3 8 (PreOf R mc ms Pc) (PostOf Qc mc ms free) (vx_Post XC mc ms free) := vx_callBack cw.1 hM hp.1
  obtain ⟨⟨-, -, -, -, -, -, hcode, -, hy, hlen, hl⟩, hy1, hin⟩ := cw
  obtain ⟨hx, hb, hml, ho, -⟩ := S
  have hPc := hp.2
  intro T hT X
  rcases vx_callI X hx (bytes := bytes) (maxL := maxL) ho hy1 hl hin hcode hy hK hg (hsize.trans hml.symm) (a := b) (argsL := As) (rest := rest) (fun sig h => hn.trans (hlen sig h)) hstack hW (by rw [hb]; exact hdg)
    (fun vm₁ hW₁ => ⟨hf.1, hf.2, hPc (T.setVm vm₁) hT hW₁⟩) with ⟨v, vm₁, ⟨U', l2, c2, s2⟩, hW₁, X', ⟨g', mk, t, L, e1, e2, hq, h1, hL, h2, h3⟩, st⟩ | ⟨q, vm₁, ⟨U', l2, c2, s2⟩, hW₁, X', ⟨g', mk, t, L, E, ce, e1, e2, hq, hce, hcv, hcl, h1, hL, h2, h3⟩, st⟩
  · dsimp only [Pt.U, Pt.locs, Pt.cells, Pt.slots] at X' e1 e2 h1 h2 h3 st
    subst h1; subst h2; subst h3
    exact Or.inl ⟨v, (T.setVm vm₁).calling g' mk (Value.ref b :: As).toArray, t, U', L, hT, X', hL, e1, e2, hq, st⟩
  · dsimp only [Pt.U, Pt.locs, Pt.cells, Pt.slots] at X' e1 e2 h1 h2 h3 st hcl
    subst h1; subst h2; subst h3
    exact Or.inr ⟨q, (T.setVm vm₁).calling g' mk (Value.ref b :: As).toArray, t, U', L, E, ce, hT, X', hL, e1, e2, hq, hce, hcv, vx_cls hW₁ hcl, st⟩
end VXIB
/-! ===== END ===== -/
/-! ===== BEGIN a private constructor of a nest mate that throws ===== -/
section VXIC
variable {p : Program} {l : Launch} {e : Env} {R : Room} {s : State} {m : MethodId} {args : Array Value} {below : List Frame} {meth : Method} {c : Code} {T : State} {locs : List Loc} {cells slots : Nat}
theorem vx_callIN (X : Stand p l e R s m args below meth c T locs cells slots) (hexec : p.tables.exec = Jvm.exec) {own : String} {index : Nat} {host : String} {y : MethodName} {bytes : ByteArray} {maxL : Nat}
    (hown : s.vm.findClass own = some m.cls) (hy1 : y.name = "<init>") (hlink : (Cond.methodLinkNest own index y host).before args s = true) (hinst : (Cond.instanceMethod y).before args s = true)
    (hcode : (Cond.code y bytes maxL none).before args s = true) (hy : y.cls ≠ "java/lang/invoke/MethodHandle" ∧ y.cls ≠ "java/lang/invoke/VarHandle")
    {W9 : Nat} {Pre : Pt → Array Value → Prop} {Post : Pt → Array Value → Option Value → Pt → Prop} {PostX : Pt → Array Value → Addr → Pt → Prop} (hK : vx_Back l R p e below s args y 3 W9 Pre Post PostX)
    {g : JFrame} (hg : g.method = m) (hsize : g.locals.size = c.maxLocals) {a : Addr} {argsL rest : List Value} (hlen : ∀ sig, parseMethodDescriptor y.desc = some sig → argsL.length = sig.parameters.length)
    (hstack : g.stack = argsL.reverse ++ .ref a :: rest) (hW : 2 * g.monitorRoom + (rest.map fun v => v.category).sum ≤ W9) (hdg : decode c.code g.pc = .ok (.invokespecial index, 3))
    (hpre : ∀ vm₁, s.WarmedH vm₁ → Pre ⟨T.setVm vm₁, locs, cells, slots⟩ (Value.ref a :: argsL).toArray) :
    (∃ (v : Option Value) (vm₁ : Vm) (B : Pt), s.WarmedH vm₁ ∧ Stand p l e R s m args below meth c B.U B.locs B.cells B.slots ∧ Post ⟨T.setVm vm₁, locs, cells, slots⟩ (Value.ref a :: argsL).toArray v B ∧
      ∀ target, Steps p.tables e below (B.U.setTop { g with pc := g.pc + 3, stack := v.toList ++ rest }) target → Steps p.tables e below (T.setTop g) target) ∨
    (∃ (q : Addr) (vm₁ : Vm) (B : Pt), s.WarmedH vm₁ ∧ Stand p l e R s m args below meth c B.U B.locs B.cells B.slots ∧ PostX ⟨T.setVm vm₁, locs, cells, slots⟩ (Value.ref a :: argsL).toArray q B ∧
      Steps p.tables e below (T.setTop g) ((B.U.setTop { g with stack := rest }).pushFrame (.throwing q))) := by
  subst hg
  have hpl : e.platform.magicAccessors = ({} : Platform).magicAccessors := by rw [X.admits.platform]
  obtain ⟨mk, methM, cM, kP, vm₁, hnamed, hmethM, hcodeM, -, hlocalsM, -, hkP, -, hW₁, hstep₁⟩ := Steps.initColdArgsNest (e := e) X.here hexec X.warmed hpl hown hy1 hy hlink hinst hcode (f := g) rfl hlen hstack hdg
  have X₁ := X.noted hW₁
  rcases hK g.method meth c ⟨T.setVm vm₁, locs, cells, slots⟩ { g with stack := rest } (.invokespecial index) mk (Value.ref a :: argsL).toArray X₁ rfl hsize hdg hW (X₁.named hnamed) (hpre vm₁ X₁.warmed) with ⟨v, B, X', hpost, hsteps⟩ | ⟨q, B, X', hpost, hsteps⟩
  · exact Or.inl ⟨v, vm₁, B, X₁.warmed, X', hpost, fun target h => hstep₁ _ fun acts => by rw [doInvoke_state]; exact hsteps.trans h⟩
  · exact Or.inr ⟨q, vm₁, B, X₁.warmed, X', hpost, hstep₁ _ fun acts => by rw [doInvoke_state]; exact hsteps⟩
end VXIC
section VXID
variable {p : Program} {l : Launch} {e : Env} {R : Room} {s : State} {m : MethodId} {args : Array Value} {below : List Frame} {meth : Method} {c : Code} {H : Heap} {locs : List Loc} {cells slots : Nat}
theorem vx_runIN {y : MethodName} {bytes cc : ByteArray} {maxL nL mc ms n index : Nat} {ws : List Cond} {rm : Room} {Pc : Array Value → State → Prop} {Qc : Array Value → State → Outcome → State → Prop} {XC : String → State → State → Prop} {free : Addr → Prop} {Ts : List Cond} {own host : String} {b : Addr} {As rest : List Value} {g : JFrame}
    (S : CallFix p m c cc nL s args Ts own) (hM : vx_Met l y ws rm Pc Qc XC mc ms free) (cw : va_CN R s args own index y host bytes maxL none ws rm mc ms n ∧ y.name = "<init>" ∧ (Cond.instanceMethod y).before args s = true) (hp : PreS s H Pc (.ref b :: As))
    (hg : g.method = m) (hn : As.length = n) (hsize : g.locals.size = nL) (hstack : g.stack = As.reverse ++ .ref b :: rest) (hW : 2 * g.monitorRoom + (rest.map fun v => v.category).sum ≤ 8) (hdg : decode cc g.pc = .ok (.invokespecial index, 3)) (hf : cells + mc ≤ R.cells ∧ slots + ms ≤ R.slots) :
    vx_Run p l e R s m args below meth c H locs cells slots mc ms g rest (Qc (Value.ref b :: As).toArray) XC free := by
  obtain ⟨⟨⟨hrc, hrs, hfr, hlo, hws, hcw⟩, hcode, hini, hy, hlen, hl⟩, hx1, hx2⟩ := cw
  have hK : vx_Back l R p e below s args y 3 8 (PreOf R mc ms Pc) (PostOf Qc mc ms free) (vx_Post XC mc ms free) := vx_back (bytes := bytes) (maxL := maxL) (ret := none) hM hp.1 hrc hrs hfr hlo hws hcw (fun a' U hW => word_at hW (Or.inl (by first | rfl | simp [Cond.onTables, Cond.keeps, Cond.steady])) hini)
  obtain ⟨hx, hb, hml, ho, -⟩ := S
  have hPc := hp.2
  intro T hT X
  rcases vx_callIN X hx (bytes := bytes) (maxL := maxL) ho hx1 hl hx2 hcode hy hK hg (hsize.trans hml.symm) (a := b) (argsL := As) (rest := rest) (fun sig h => hn.trans (hlen sig h)) hstack hW (by rw [hb]; exact hdg)
    (fun vm₁ hW₁ => ⟨hf.1, hf.2, hPc (T.setVm vm₁) hT hW₁⟩) with ⟨v, vm₁, ⟨U', l2, c2, s2⟩, hW₁, X', ⟨g', mk, t, L, e1, e2, hq, h1, hL, h2, h3⟩, st⟩ | ⟨q, vm₁, ⟨U', l2, c2, s2⟩, hW₁, X', ⟨g', mk, t, L, E, ce, e1, e2, hq, hce, hcv, hcl, h1, hL, h2, h3⟩, st⟩
  · dsimp only [Pt.U, Pt.locs, Pt.cells, Pt.slots] at X' e1 e2 h1 h2 h3 st
    subst h1; subst h2; subst h3
    exact Or.inl ⟨v, (T.setVm vm₁).calling g' mk (Value.ref b :: As).toArray, t, U', L, hT, X', hL, e1, e2, hq, st⟩
  · dsimp only [Pt.U, Pt.locs, Pt.cells, Pt.slots] at X' e1 e2 h1 h2 h3 st hcl
    subst h1; subst h2; subst h3
    exact Or.inr ⟨q, (T.setVm vm₁).calling g' mk (Value.ref b :: As).toArray, t, U', L, E, ce, hT, X', hL, e1, e2, hq, hce, hcv, vx_cls hW₁ hcl, st⟩
end VXID
/-! ===== END ===== -/
/-! ===== BEGIN a private method of a nest mate that may throw (follows va_callVN, va_callSN, va_runVN, va_runSN) ===== -/
section
variable {p : Program} {l : Launch} {e : Env} {R : Room} {s : State} {m : MethodId} {args : Array Value} {below : List Frame} {meth : Method} {c : Code} {H : Heap} {locs : List Loc} {cells slots : Nat}
variable {T : State}
theorem vx_callVN (X : Stand p l e R s m args below meth c T locs cells slots) (hexec : p.tables.exec = Jvm.exec) {own C : String} {index : Nat} {host : String} {y : MethodName} {bytes : ByteArray} {maxL : Nat} {ret : Option FieldType}
    (hown : s.vm.findClass own = some m.cls) (hlink : (Cond.methodLinkNest own index y host).before args s = true) (hinst : (Cond.instanceMethod y).before args s = true) (hsel : (Cond.selects C y y).before args s = true)
    (hcode : (Cond.code y bytes maxL ret).before args s = true) (hy : y.cls ≠ "java/lang/invoke/MethodHandle" ∧ y.cls ≠ "java/lang/invoke/VarHandle")
    {W : Nat} {Pre : Pt → Array Value → Prop} {Post : Pt → Array Value → Option Value → Pt → Prop} {PostX : Pt → Array Value → Addr → Pt → Prop} (hK : vx_Back l R p e below s args y 3 W Pre Post PostX)
    {b : Addr} {cellB : Cell} (hcell : T.heap[b]? = some cellB) (hobj : cellB.vm.isStatics = false) (hcls : s.vm.findClass C = some cellB.cls)
    {g : JFrame} (hg : g.method = m) (hsize : g.locals.size = c.maxLocals) {argsL rest : List Value} (hlen : ∀ sig, parseMethodDescriptor y.desc = some sig → argsL.length = sig.parameters.length)
    (hstack : g.stack = argsL.reverse ++ .ref b :: rest) (hW : 2 * g.monitorRoom + (rest.map fun v => v.category).sum ≤ W) (hdg : decode c.code g.pc = .ok (.invokevirtual index, 3))
    (hpre : ∀ vm₁, s.WarmedH vm₁ → Pre ⟨T.setVm vm₁, locs, cells, slots⟩ (Value.ref b :: argsL).toArray) :
    (∃ (v : Option Value) (vm₁ : Vm) (B : Pt), s.WarmedH vm₁ ∧ Stand p l e R s m args below meth c B.U B.locs B.cells B.slots ∧ Post ⟨T.setVm vm₁, locs, cells, slots⟩ (Value.ref b :: argsL).toArray v B ∧
      ∀ target, Steps p.tables e below (B.U.setTop { g with pc := g.pc + 3, stack := v.toList ++ rest }) target → Steps p.tables e below (T.setTop g) target) ∨
    (∃ (q : Addr) (vm₁ : Vm) (B : Pt), s.WarmedH vm₁ ∧ Stand p l e R s m args below meth c B.U B.locs B.cells B.slots ∧ PostX ⟨T.setVm vm₁, locs, cells, slots⟩ (Value.ref b :: argsL).toArray q B ∧
      Steps p.tables e below (T.setTop g) ((B.U.setTop { g with stack := rest }).pushFrame (.throwing q))) := by
  obtain ⟨mk, methM, hnamed, hmethM, hstM, habM⟩ := Cond.instanceMethod_spec hinst
  obtain ⟨methM', cM, hmethM', -, -, -, -, -, -, hsigM⟩ := Cond.code_spec hnamed hcode
  cases hmethM.symm.trans hmethM'
  obtain ⟨c2, r2, m2, q1, q2, q3, q4, kP, hkP, hkPi⟩ := Cond.selects_spec hsel
  cases hcls.symm.trans q1
  cases (State.methodFound?_of_named hnamed hy).symm.trans q2
  cases hnamed.symm.trans q3
  have hselP : selectMethod e.platform s.vm cellB.cls mk = .method mk := by rw [Launch.admits_selectMethod X.admits]; exact q4
  obtain ⟨vm₁, X₁, hstep₁⟩ := X.invokevirtualNest hexec hown hlink hnamed hmethM hstM hkP hkPi hy (a := b) (cell := cellB) hcell
    (fun z h => by rw [h] at hobj; cases hobj) hselP hmethM habM hkP hkPi (g := g) hg (argsL := argsL) (rest := rest) (hlen _ hsigM) hstack hdg
  rcases hK m meth c ⟨T.setVm vm₁, locs, cells, slots⟩ { g with stack := rest } (.invokevirtual index) mk (Value.ref b :: argsL).toArray X₁ hg hsize hdg hW (X₁.named hnamed) (hpre vm₁ X₁.warmed) with ⟨v, B, X', hpost, hsteps⟩ | ⟨q, B, X', hpost, hsteps⟩
  · exact Or.inl ⟨v, vm₁, B, X₁.warmed, X', hpost, fun target h => hstep₁ _ fun acts => by rw [doInvoke_state]; exact hsteps.trans h⟩
  · exact Or.inr ⟨q, vm₁, B, X₁.warmed, X', hpost, hstep₁ _ fun acts => by rw [doInvoke_state]; exact hsteps⟩
theorem vx_callSN (X : Stand p l e R s m args below meth c T locs cells slots) (hexec : p.tables.exec = Jvm.exec) {own : String} {index : Nat} {host : String} {y : MethodName} {bytes : ByteArray} {maxL : Nat} {ret : Option FieldType}
    (hown : s.vm.findClass own = some m.cls) (hlink : (Cond.methodLinkNest own index y host).before args s = true) (hstat : (Cond.static y).before args s = true) (hinit : (Cond.initialized y.cls).before args s = true)
    (hcode : (Cond.code y bytes maxL ret).before args s = true) (hy : y.cls ≠ "java/lang/invoke/MethodHandle" ∧ y.cls ≠ "java/lang/invoke/VarHandle")
    {W : Nat} {Pre : Pt → Array Value → Prop} {Post : Pt → Array Value → Option Value → Pt → Prop} {PostX : Pt → Array Value → Addr → Pt → Prop} (hK : vx_Back l R p e below s args y 3 W Pre Post PostX)
    {g : JFrame} (hg : g.method = m) (hsize : g.locals.size = c.maxLocals) {argsL rest : List Value} (hlen : ∀ sig, parseMethodDescriptor y.desc = some sig → argsL.length = sig.parameters.length)
    (hstack : g.stack = argsL.reverse ++ rest) (hW : 2 * g.monitorRoom + (rest.map fun v => v.category).sum ≤ W) (hdg : decode c.code g.pc = .ok (.invokestatic index, 3))
    (hpre : ∀ vm₁, s.WarmedH vm₁ → Pre ⟨T.setVm vm₁, locs, cells, slots⟩ argsL.toArray) :
    (∃ (v : Option Value) (vm₁ : Vm) (B : Pt), s.WarmedH vm₁ ∧ Stand p l e R s m args below meth c B.U B.locs B.cells B.slots ∧ Post ⟨T.setVm vm₁, locs, cells, slots⟩ argsL.toArray v B ∧
      ∀ target, Steps p.tables e below (B.U.setTop { g with pc := g.pc + 3, stack := v.toList ++ rest }) target → Steps p.tables e below (T.setTop g) target) ∨
    (∃ (q : Addr) (vm₁ : Vm) (B : Pt), s.WarmedH vm₁ ∧ Stand p l e R s m args below meth c B.U B.locs B.cells B.slots ∧ PostX ⟨T.setVm vm₁, locs, cells, slots⟩ argsL.toArray q B ∧
      Steps p.tables e below (T.setTop g) ((B.U.setTop { g with stack := rest }).pushFrame (.throwing q))) := by
  obtain ⟨mk, hnamed⟩ := Cond.code_named hcode
  obtain ⟨methM, cM, hmethM, -, -, -, -, -, -, hsigM⟩ := Cond.code_spec hnamed hcode
  have hstatic : methM.isStatic = true := Cond.static_spec hnamed hmethM hstat
  obtain ⟨kP, hkP, -⟩ := className_of_methodNamed hnamed
  have hinitP : kP.init = .initialized := Cond.initialized_spec (findClass_of_methodNamed hnamed) hkP hinit
  obtain ⟨vm₁, X₁, hstep₁⟩ := X.invokestaticNest hexec hown hlink hnamed hmethM hstatic hkP hinitP hy (g := g) hg (argsL := argsL) (rest := rest) (hlen _ hsigM) hstack hdg
  rcases hK m meth c ⟨T.setVm vm₁, locs, cells, slots⟩ { g with stack := rest } (.invokestatic index) mk argsL.toArray X₁ hg hsize hdg hW (X₁.named hnamed) (hpre vm₁ X₁.warmed) with ⟨v, B, X', hpost, hsteps⟩ | ⟨q, B, X', hpost, hsteps⟩
  · exact Or.inl ⟨v, vm₁, B, X₁.warmed, X', hpost, fun target h => hstep₁ _ fun acts => by rw [doInvoke_state]; exact hsteps.trans h⟩
  · exact Or.inr ⟨q, vm₁, B, X₁.warmed, X', hpost, hstep₁ _ fun acts => by rw [doInvoke_state]; exact hsteps⟩
theorem vx_runVN {y : MethodName} {bytes cc : ByteArray} {maxL nL mc ms n index : Nat} {ret : Option FieldType} {ws : List Cond} {rm : Room} {Pc : Array Value → State → Prop} {Qc : Array Value → State → Outcome → State → Prop} {XC : String → State → State → Prop} {free : Addr → Prop} {Ts : List Cond} {own C host : String} {b : Addr} {As rest : List Value} {g : JFrame}
    (S : CallFix p m c cc nL s args Ts own) (hM : vx_Met l y ws rm Pc Qc XC mc ms free) (cw : va_CN R s args own index y host bytes maxL ret ws rm mc ms n ∧ (Cond.instanceMethod y).before args s = true ∧ (Cond.selects C y y).before args s = true) (hp : PreV s H C b Pc As)
    (hg : g.method = m) (hn : As.length = n) (hsize : g.locals.size = nL) (hstack : g.stack = As.reverse ++ .ref b :: rest) (hW : 2 * g.monitorRoom + (rest.map fun v => v.category).sum ≤ 8) (hdg : decode cc g.pc = .ok (.invokevirtual index, 3)) (hf : cells + mc ≤ R.cells ∧ slots + ms ≤ R.slots) :
    vx_Run p l e R s m args below meth c H locs cells slots mc ms g rest (Qc (Value.ref b :: As).toArray) XC free := by
  obtain ⟨⟨⟨hrc, hrs, hfr, hlo, hws, hcw⟩, hcode, hini, hy, hlen, hl⟩, hx1, hx2⟩ := cw
  have hK : vx_Back l R p e below s args y 3 8 (PreOf R mc ms Pc) (PostOf Qc mc ms free) (vx_Post XC mc ms free) := vx_back (bytes := bytes) (maxL := maxL) (ret := ret) hM hp.1 hrc hrs hfr hlo hws hcw (fun a' U hW => word_at hW (Or.inl (by first | rfl | simp [Cond.onTables, Cond.keeps, Cond.steady])) hini)
  obtain ⟨hx, hb, hml, ho, -⟩ := S
  obtain ⟨-, ⟨cellB, hcB, hoB, hclB⟩, hPc⟩ := hp
  intro T hT X
  rcases vx_callVN X hx (C := C) (bytes := bytes) (maxL := maxL) (ret := ret) ho hl hx1 hx2 hcode hy hK (by rw [hT]; exact hcB) hoB hclB hg (hsize.trans hml.symm) (argsL := As) (rest := rest) (fun sig h => hn.trans (hlen sig h)) hstack hW (by rw [hb]; exact hdg)
    (fun vm₁ hW₁ => ⟨hf.1, hf.2, hPc (T.setVm vm₁) hT hW₁⟩) with ⟨v, vm₁, ⟨U', l2, c2, s2⟩, hW₁, X', ⟨g', mk, t, L, e1, e2, hq, h1, hL, h2, h3⟩, st⟩ | ⟨q, vm₁, ⟨U', l2, c2, s2⟩, hW₁, X', ⟨g', mk, t, L, E, ce, e1, e2, hq, hce, hcv, hcl, h1, hL, h2, h3⟩, st⟩
  · dsimp only [Pt.U, Pt.locs, Pt.cells, Pt.slots] at X' e1 e2 h1 h2 h3 st
    subst h1; subst h2; subst h3
    exact Or.inl ⟨v, (T.setVm vm₁).calling g' mk (Value.ref b :: As).toArray, t, U', L, hT, X', hL, e1, e2, hq, st⟩
  · dsimp only [Pt.U, Pt.locs, Pt.cells, Pt.slots] at X' e1 e2 h1 h2 h3 st hcl
    subst h1; subst h2; subst h3
    exact Or.inr ⟨q, (T.setVm vm₁).calling g' mk (Value.ref b :: As).toArray, t, U', L, E, ce, hT, X', hL, e1, e2, hq, hce, hcv, vx_cls hW₁ hcl, st⟩
theorem vx_runSN {y : MethodName} {bytes cc : ByteArray} {maxL nL mc ms n index : Nat} {ret : Option FieldType} {ws : List Cond} {rm : Room} {Pc : Array Value → State → Prop} {Qc : Array Value → State → Outcome → State → Prop} {XC : String → State → State → Prop} {free : Addr → Prop} {Ts : List Cond} {own host : String} {As rest : List Value} {g : JFrame}
    (S : CallFix p m c cc nL s args Ts own) (hM : vx_Met l y ws rm Pc Qc XC mc ms free) (cw : va_CN R s args own index y host bytes maxL ret ws rm mc ms n ∧ (Cond.static y).before args s = true ∧ True) (hp : PreS s H Pc As)
    (hg : g.method = m) (hn : As.length = n) (hsize : g.locals.size = nL) (hstack : g.stack = As.reverse ++ rest) (hW : 2 * g.monitorRoom + (rest.map fun v => v.category).sum ≤ 8) (hdg : decode cc g.pc = .ok (.invokestatic index, 3)) (hf : cells + mc ≤ R.cells ∧ slots + ms ≤ R.slots) :
    vx_Run p l e R s m args below meth c H locs cells slots mc ms g rest (Qc As.toArray) XC free := by
  obtain ⟨⟨⟨hrc, hrs, hfr, hlo, hws, hcw⟩, hcode, hini, hy, hlen, hl⟩, hx1, hx2⟩ := cw
  have hK : vx_Back l R p e below s args y 3 8 (PreOf R mc ms Pc) (PostOf Qc mc ms free) (vx_Post XC mc ms free) := vx_back (bytes := bytes) (maxL := maxL) (ret := ret) hM hp.1 hrc hrs hfr hlo hws hcw (fun a' U hW => word_at hW (Or.inl (by first | rfl | simp [Cond.onTables, Cond.keeps, Cond.steady])) hini)
  obtain ⟨hx, hb, hml, ho, -⟩ := S
  have hPc := hp.2
  intro T hT X
  rcases vx_callSN X hx (bytes := bytes) (maxL := maxL) (ret := ret) ho hl hx1 hini hcode hy hK hg (hsize.trans hml.symm) (argsL := As) (rest := rest) (fun sig h => hn.trans (hlen sig h)) hstack hW (by rw [hb]; exact hdg)
    (fun vm₁ hW₁ => ⟨hf.1, hf.2, hPc (T.setVm vm₁) hT hW₁⟩) with ⟨v, vm₁, ⟨U', l2, c2, s2⟩, hW₁, X', ⟨g', mk, t, L, e1, e2, hq, h1, hL, h2, h3⟩, st⟩ | ⟨q, vm₁, ⟨U', l2, c2, s2⟩, hW₁, X', ⟨g', mk, t, L, E, ce, e1, e2, hq, hce, hcv, hcl, h1, hL, h2, h3⟩, st⟩
  · dsimp only [Pt.U, Pt.locs, Pt.cells, Pt.slots] at X' e1 e2 h1 h2 h3 st
    subst h1; subst h2; subst h3
    exact Or.inl ⟨v, (T.setVm vm₁).calling g' mk As.toArray, t, U', L, hT, X', hL, e1, e2, hq, st⟩
  · dsimp only [Pt.U, Pt.locs, Pt.cells, Pt.slots] at X' e1 e2 h1 h2 h3 st hcl
    subst h1; subst h2; subst h3
    exact Or.inr ⟨q, (T.setVm vm₁).calling g' mk As.toArray, t, U', L, E, ce, hT, X', hL, e1, e2, hq, hce, hcv, vx_cls hW₁ hcl, st⟩
end
/-! ===== END ===== -/
end
section
def RX0 : String := "Lampboard$Cue"
def TX0 : u_T := fun k => match k with
  | 0 => ("Lampboard$Cue", "stored", "LLampboard$Entries;", true)
  | 1 => ("Lampboard$Cue", "delay", "I", false)
  | 2 => ("Lampboard$Cue", "fade", "I", false)
  | 3 => ("Lampboard$Cue", "follow", "I", false)
  | 4 => ("Lampboard$Cue", "link", "I", false)
  | 5 => ("Lampboard$Cue", "code", "I", false)
  | _ => ("Lampboard$Cue", "asserts", "Z", false)
def tyX0 : Nat → FieldType := fun k => match k with
  | 0 => .object "Lampboard$Entries"
  | 1 => .int
  | 2 => .int
  | 3 => .int
  | 4 => .int
  | 5 => .int
  | _ => .boolean
abbrev wsX00 : List Cond := u_ws RX0 TX0 7
theorem nmX0 : ∀ a, a < 7 → ∀ b, b < 7 → a ≠ b → (TX0 a).2.1 ≠ (TX0 b).2.1 := by decide +kernel
theorem tyX0_ok : ∀ k, k < 7 → parseFieldDescriptor (TX0 k).2.2.1 = some (tyX0 k) := by decide +kernel
abbrev cX0_init : ByteArray := prog_2_method_1_code
def yX0_init : MethodName := ⟨RX0, "<init>", "()V"⟩
abbrev cX0_changeTimes : ByteArray := prog_2_method_2_code
def yX0_changeTimes : MethodName := ⟨RX0, "changeTimes", "(II)I"⟩
abbrev cX0_changeFollow : ByteArray := prog_2_method_3_code
def yX0_changeFollow : MethodName := ⟨RX0, "changeFollow", "(I)I"⟩
abbrev cX0_changeLink : ByteArray := prog_2_method_4_code
def yX0_changeLink : MethodName := ⟨RX0, "changeLink", "(I)I"⟩
abbrev cX0_changeCode : ByteArray := prog_2_method_5_code
def yX0_changeCode : MethodName := ⟨RX0, "changeCode", "(I)I"⟩
abbrev cX0_changeAssert : ByteArray := prog_2_method_6_code
def yX0_changeAssert : MethodName := ⟨RX0, "changeAssert", "(Z)Z"⟩
def RX1 : String := "Lampboard$CueList"
def TX1 : u_T := fun k => match k with
  | 0 => ("Lampboard$CueList", "cues", "[LLampboard$Cue;", true)
  | 1 => ("Lampboard$CueList", "count", "I", false)
  | 2 => ("Lampboard$CueList", "present", "I", false)
  | 3 => ("Lampboard$CueList", "beganAt", "I", false)
  | 4 => ("Lampboard$CueList", "master", "I", false)
  | 5 => ("Lampboard$CueList", "priority", "I", false)
  | 6 => ("Lampboard$CueList", "froms", "[F", true)
  | 7 => ("Lampboard$CueList", "starts", "[I", true)
  | 8 => ("Lampboard$CueList", "lengths", "[I", true)
  | _ => ("Lampboard$CueList", "orders", "[I", true)
def tyX1 : Nat → FieldType := fun k => match k with
  | 0 => .array (.object "Lampboard$Cue")
  | 1 => .int
  | 2 => .int
  | 3 => .int
  | 4 => .int
  | 5 => .int
  | 6 => .array .float
  | 7 => .array .int
  | 8 => .array .int
  | _ => .array .int
abbrev wsX10 : List Cond := u_ws RX1 TX1 10
theorem nmX1 : ∀ a, a < 10 → ∀ b, b < 10 → a ≠ b → (TX1 a).2.1 ≠ (TX1 b).2.1 := by decide +kernel
theorem tyX1_ok : ∀ k, k < 10 → parseFieldDescriptor (TX1 k).2.2.1 = some (tyX1 k) := by decide +kernel
abbrev cX1_init : ByteArray := prog_3_method_1_code
def yX1_init : MethodName := ⟨RX1, "<init>", "()V"⟩
abbrev cX1_changeMaster : ByteArray := prog_3_method_2_code
def yX1_changeMaster : MethodName := ⟨RX1, "changeMaster", "(I)I"⟩
abbrev cX1_changePriority : ByteArray := prog_3_method_3_code
def yX1_changePriority : MethodName := ⟨RX1, "changePriority", "(I)I"⟩
abbrev cX1_sourceOf : ByteArray := prog_3_method_4_code
def yX1_sourceOf : MethodName := ⟨RX1, "sourceOf", "(II)I"⟩
abbrev cX1_entryOf : ByteArray := prog_3_method_5_code
def yX1_entryOf : MethodName := ⟨RX1, "entryOf", "(II)I"⟩
abbrev cX1_nextCue : ByteArray := prog_3_method_6_code
def yX1_nextCue : MethodName := ⟨RX1, "nextCue", "()I"⟩
abbrev cX1_cueThatFollows : ByteArray := prog_3_method_7_code
def yX1_cueThatFollows : MethodName := ⟨RX1, "cueThatFollows", "(I)I"⟩
abbrev cX1_cueForCode : ByteArray := prog_3_method_8_code
def yX1_cueForCode : MethodName := ⟨RX1, "cueForCode", "(I)I"⟩
abbrev cX1_hasFade : ByteArray := prog_3_method_9_code
def yX1_hasFade : MethodName := ⟨RX1, "hasFade", "(I)Z"⟩
abbrev cX1_needsNewFade : ByteArray := prog_3_method_10_code
def yX1_needsNewFade : MethodName := ⟨RX1, "needsNewFade", "(II)Z"⟩
abbrev cX1_startFade : ByteArray := prog_3_method_11_code
def yX1_startFade : MethodName := ⟨RX1, "startFade", "(IIFII)V"⟩
abbrev cX1_fadeValue : ByteArray := prog_3_method_12_code
def yX1_fadeValue : MethodName := ⟨RX1, "fadeValue", "(IILLampboard$Palettes;)F"⟩
abbrev cX1_putOut : ByteArray := prog_3_method_13_code
def yX1_putOut : MethodName := ⟨RX1, "putOut", "(IILLampboard$Palettes;)F"⟩
abbrev cX1_hasOpenFade : ByteArray := prog_3_method_14_code
def yX1_hasOpenFade : MethodName := ⟨RX1, "hasOpenFade", "(I)Z"⟩
abbrev cX1_letGo : ByteArray := prog_3_method_15_code
def yX1_letGo : MethodName := ⟨RX1, "letGo", "()I"⟩
abbrev cX1_storedInAll : ByteArray := prog_3_method_16_code
def yX1_storedInAll : MethodName := ⟨RX1, "storedInAll", "()I"⟩
abbrev cX1_tracksAsGoneThrough : ByteArray := prog_3_method_17_code
def yX1_tracksAsGoneThrough : MethodName := ⟨RX1, "tracksAsGoneThrough", "()Z"⟩
def RX2 : String := "Lampboard$Desk"
def TX2 : u_T := fun k => match k with
  | 0 => ("Lampboard$Desk", "lines", "[I", true)
  | 1 => ("Lampboard$Desk", "lamps", "I", false)
  | 2 => ("Lampboard$Desk", "groups", "[LLampboard$Group;", true)
  | 3 => ("Lampboard$Desk", "groupCount", "I", false)
  | 4 => ("Lampboard$Desk", "palettes", "LLampboard$Palettes;", true)
  | 5 => ("Lampboard$Desk", "programmer", "LLampboard$Entries;", true)
  | 6 => ("Lampboard$Desk", "lists", "[LLampboard$CueList;", true)
  | 7 => ("Lampboard$Desk", "effects", "[LLampboard$Effect;", true)
  | 8 => ("Lampboard$Desk", "effectCount", "I", false)
  | 9 => ("Lampboard$Desk", "time", "I", false)
  | _ => ("Lampboard$Desk", "beginnings", "I", false)
def tyX2 : Nat → FieldType := fun k => match k with
  | 0 => .array .int
  | 1 => .int
  | 2 => .array (.object "Lampboard$Group")
  | 3 => .int
  | 4 => .object "Lampboard$Palettes"
  | 5 => .object "Lampboard$Entries"
  | 6 => .array (.object "Lampboard$CueList")
  | 7 => .array (.object "Lampboard$Effect")
  | 8 => .int
  | 9 => .int
  | _ => .int
abbrev wsX20 : List Cond := u_ws RX2 TX2 11
theorem nmX2 : ∀ a, a < 11 → ∀ b, b < 11 → a ≠ b → (TX2 a).2.1 ≠ (TX2 b).2.1 := by decide +kernel
theorem tyX2_ok : ∀ k, k < 11 → parseFieldDescriptor (TX2 k).2.2.1 = some (tyX2 k) := by decide +kernel
abbrev cX2_init : ByteArray := prog_4_method_1_code
def yX2_init : MethodName := ⟨RX2, "<init>", "()V"⟩
abbrev cX2_placeLamp : ByteArray := prog_4_method_2_code
def yX2_placeLamp : MethodName := ⟨RX2, "placeLamp", "()I"⟩
abbrev cX2_meetsAnotherLamp : ByteArray := prog_4_method_3_code
def yX2_meetsAnotherLamp : MethodName := ⟨RX2, "meetsAnotherLamp", "(II)Z"⟩
abbrev cX2_moveLamp : ByteArray := prog_4_method_4_code
def yX2_moveLamp : MethodName := ⟨RX2, "moveLamp", "(II)I"⟩
abbrev cX2_formGroup : ByteArray := prog_4_method_5_code
def yX2_formGroup : MethodName := ⟨RX2, "formGroup", "()I"⟩
abbrev cX2_spreadOver : ByteArray := prog_4_method_6_code
def yX2_spreadOver : MethodName := ⟨RX2, "spreadOver", "(IIII)I"⟩
abbrev cX2_cueAt : ByteArray := prog_4_method_7_code
def yX2_cueAt : MethodName := ⟨RX2, "cueAt", "(II)LLampboard$Cue;"⟩
abbrev cX2_storeCue : ByteArray := prog_4_method_8_code
def yX2_storeCue : MethodName := ⟨RX2, "storeCue", "(I)I"⟩
abbrev cX2_advance : ByteArray := prog_4_method_9_code
def yX2_advance : MethodName := ⟨RX2, "advance", "(I)I"⟩
abbrev cX2_begin : ByteArray := prog_4_method_10_code
def yX2_begin : MethodName := ⟨RX2, "begin", "(II)I"⟩
abbrev cX2_updateList : ByteArray := prog_4_method_11_code
def yX2_updateList : MethodName := ⟨RX2, "updateList", "(I)I"⟩
abbrev cX2_updateSlot : ByteArray := prog_4_method_12_code
def yX2_updateSlot : MethodName := ⟨RX2, "updateSlot", "(LLampboard$CueList;I)V"⟩
abbrev cX2_goOn : ByteArray := prog_4_method_13_code
def yX2_goOn : MethodName := ⟨RX2, "goOn", "(I)I"⟩
abbrev cX2_takeCode : ByteArray := prog_4_method_14_code
def yX2_takeCode : MethodName := ⟨RX2, "takeCode", "(I)I"⟩
abbrev cX2_nextEffect : ByteArray := prog_4_method_15_code
def yX2_nextEffect : MethodName := ⟨RX2, "nextEffect", "()LLampboard$Effect;"⟩
abbrev cX2_runningEffects : ByteArray := prog_4_method_16_code
def yX2_runningEffects : MethodName := ⟨RX2, "runningEffects", "()I"⟩
abbrev cX2_decider : ByteArray := prog_4_method_17_code
def yX2_decider : MethodName := ⟨RX2, "decider", "(I)I"⟩
abbrev cX2_settled : ByteArray := prog_4_method_18_code
def yX2_settled : MethodName := ⟨RX2, "settled", "(I)F"⟩
abbrev cX2_shown : ByteArray := prog_4_method_19_code
def yX2_shown : MethodName := ⟨RX2, "shown", "(I)F"⟩
abbrev cX2_lineValue : ByteArray := prog_4_method_20_code
def yX2_lineValue : MethodName := ⟨RX2, "lineValue", "(I)I"⟩
def RX3 : String := "Lampboard$Effect"
def TX3 : u_T := fun k => match k with
  | 0 => ("Lampboard$Effect", "group", "I", false)
  | 1 => ("Lampboard$Effect", "attribute", "I", false)
  | 2 => ("Lampboard$Effect", "shape", "C", false)
  | 3 => ("Lampboard$Effect", "size", "I", false)
  | 4 => ("Lampboard$Effect", "period", "I", false)
  | 5 => ("Lampboard$Effect", "spread", "I", false)
  | _ => ("Lampboard$Effect", "startedAt", "I", false)
def tyX3 : Nat → FieldType := fun k => match k with
  | 0 => .int
  | 1 => .int
  | 2 => .char
  | 3 => .int
  | 4 => .int
  | 5 => .int
  | _ => .int
abbrev wsX30 : List Cond := u_ws RX3 TX3 7
theorem nmX3 : ∀ a, a < 7 → ∀ b, b < 7 → a ≠ b → (TX3 a).2.1 ≠ (TX3 b).2.1 := by decide +kernel
theorem tyX3_ok : ∀ k, k < 7 → parseFieldDescriptor (TX3 k).2.2.1 = some (tyX3 k) := by decide +kernel
abbrev cX3_init : ByteArray := prog_5_method_1_code
def yX3_init : MethodName := ⟨RX3, "<init>", "()V"⟩
abbrev cX3_describe : ByteArray := prog_5_method_2_code
def yX3_describe : MethodName := ⟨RX3, "describe", "(IICIII)V"⟩
abbrev cX3_runs : ByteArray := prog_5_method_3_code
def yX3_runs : MethodName := ⟨RX3, "runs", "()Z"⟩
abbrev cX3_wave : ByteArray := prog_5_method_4_code
def yX3_wave : MethodName := ⟨RX3, "wave", "(II)F"⟩
def RX4 : String := "Lampboard$Entries"
def TX4 : u_T := fun k => match k with
  | 0 => ("Lampboard$Entries", "rows", "[I", true)
  | _ => ("Lampboard$Entries", "count", "I", false)
def tyX4 : Nat → FieldType := fun k => match k with
  | 0 => .array .int
  | _ => .int
abbrev wsX40 : List Cond := u_ws RX4 TX4 2
theorem nmX4 : ∀ a, a < 2 → ∀ b, b < 2 → a ≠ b → (TX4 a).2.1 ≠ (TX4 b).2.1 := by decide +kernel
theorem tyX4_ok : ∀ k, k < 2 → parseFieldDescriptor (TX4 k).2.2.1 = some (tyX4 k) := by decide +kernel
abbrev cX4_init : ByteArray := prog_6_method_1_code
def yX4_init : MethodName := ⟨RX4, "<init>", "()V"⟩
abbrev cX4_has : ByteArray := prog_6_method_2_code
def yX4_has : MethodName := ⟨RX4, "has", "(I)Z"⟩
abbrev cX4_put : ByteArray := prog_6_method_3_code
def yX4_put : MethodName := ⟨RX4, "put", "(II)I"⟩
abbrev cX4_drop : ByteArray := prog_6_method_4_code
def yX4_drop : MethodName := ⟨RX4, "drop", "(I)I"⟩
abbrev cX4_empty : ByteArray := prog_6_method_5_code
def yX4_empty : MethodName := ⟨RX4, "empty", "()I"⟩
abbrev cX4_copy : ByteArray := prog_6_method_6_code
def yX4_copy : MethodName := ⟨RX4, "copy", "(LLampboard$Entries;)V"⟩
def RX5 : String := "Lampboard$Group"
def TX5 : u_T := fun k => match k with
  | 0 => ("Lampboard$Group", "lamps", "[I", true)
  | _ => ("Lampboard$Group", "count", "I", false)
def tyX5 : Nat → FieldType := fun k => match k with
  | 0 => .array .int
  | _ => .int
abbrev wsX50 : List Cond := u_ws RX5 TX5 2
theorem nmX5 : ∀ a, a < 2 → ∀ b, b < 2 → a ≠ b → (TX5 a).2.1 ≠ (TX5 b).2.1 := by decide +kernel
theorem tyX5_ok : ∀ k, k < 2 → parseFieldDescriptor (TX5 k).2.2.1 = some (tyX5 k) := by decide +kernel
abbrev cX5_init : ByteArray := prog_7_method_1_code
def yX5_init : MethodName := ⟨RX5, "<init>", "()V"⟩
abbrev cX5_placeOf : ByteArray := prog_7_method_2_code
def yX5_placeOf : MethodName := ⟨RX5, "placeOf", "(I)I"⟩
abbrev cX5_join : ByteArray := prog_7_method_3_code
def yX5_join : MethodName := ⟨RX5, "join", "(I)I"⟩
def RX6 : String := "Lampboard$Palettes"
def TX6 : u_T := fun k => match k with
  | 0 => ("Lampboard$Palettes", "attributes", "[I", true)
  | 1 => ("Lampboard$Palettes", "values", "[I", true)
  | _ => ("Lampboard$Palettes", "count", "I", false)
def tyX6 : Nat → FieldType := fun k => match k with
  | 0 => .array .int
  | 1 => .array .int
  | _ => .int
abbrev wsX60 : List Cond := u_ws RX6 TX6 3
theorem nmX6 : ∀ a, a < 3 → ∀ b, b < 3 → a ≠ b → (TX6 a).2.1 ≠ (TX6 b).2.1 := by decide +kernel
theorem tyX6_ok : ∀ k, k < 3 → parseFieldDescriptor (TX6 k).2.2.1 = some (tyX6 k) := by decide +kernel
abbrev cX6_init : ByteArray := prog_8_method_1_code
def yX6_init : MethodName := ⟨RX6, "<init>", "()V"⟩
abbrev cX6_mix : ByteArray := prog_8_method_2_code
def yX6_mix : MethodName := ⟨RX6, "mix", "(II)I"⟩
abbrev cX6_change : ByteArray := prog_8_method_3_code
def yX6_change : MethodName := ⟨RX6, "change", "(II)I"⟩
abbrev cX6_numberOf : ByteArray := prog_8_method_4_code
def yX6_numberOf : MethodName := ⟨RX6, "numberOf", "(I)I"⟩
def RX7 : String := "Lampboard"
def TX7 : u_T := fun k => match k with
  | 0 => ("Lampboard", "desk", "LLampboard$Desk;", true)
  | _ => ("Lampboard", "twin", "LLampboard$Desk;", true)
def tyX7 : Nat → FieldType := fun k => match k with
  | 0 => .object "Lampboard$Desk"
  | _ => .object "Lampboard$Desk"
abbrev wsX70 : List Cond := u_ws RX7 TX7 2
theorem nmX7 : ∀ a, a < 2 → ∀ b, b < 2 → a ≠ b → (TX7 a).2.1 ≠ (TX7 b).2.1 := by decide +kernel
theorem tyX7_ok : ∀ k, k < 2 → parseFieldDescriptor (TX7 k).2.2.1 = some (tyX7 k) := by decide +kernel
abbrev cX7_init : ByteArray := prog_1_method_1_code
def yX7_init : MethodName := ⟨RX7, "<init>", "()V"⟩
abbrev cX7_addLamp : ByteArray := prog_1_method_2_code
def yX7_addLamp : MethodName := ⟨RX7, "addLamp", "()I"⟩
abbrev cX7_patch : ByteArray := prog_1_method_3_code
def yX7_patch : MethodName := ⟨RX7, "patch", "(II)I"⟩
abbrev cX7_addGroup : ByteArray := prog_1_method_4_code
def yX7_addGroup : MethodName := ⟨RX7, "addGroup", "()I"⟩
abbrev cX7_addToGroup : ByteArray := prog_1_method_5_code
def yX7_addToGroup : MethodName := ⟨RX7, "addToGroup", "(II)I"⟩
abbrev cX7_addPalette : ByteArray := prog_1_method_6_code
def yX7_addPalette : MethodName := ⟨RX7, "addPalette", "(II)I"⟩
abbrev cX7_setPalette : ByteArray := prog_1_method_7_code
def yX7_setPalette : MethodName := ⟨RX7, "setPalette", "(II)I"⟩
abbrev cX7_set : ByteArray := prog_1_method_8_code
def yX7_set : MethodName := ⟨RX7, "set", "(III)I"⟩
abbrev cX7_point : ByteArray := prog_1_method_9_code
def yX7_point : MethodName := ⟨RX7, "point", "(II)I"⟩
abbrev cX7_fan : ByteArray := prog_1_method_10_code
def yX7_fan : MethodName := ⟨RX7, "fan", "(IIII)I"⟩
abbrev cX7_knockOut : ByteArray := prog_1_method_11_code
def yX7_knockOut : MethodName := ⟨RX7, "knockOut", "(II)I"⟩
abbrev cX7_clear : ByteArray := prog_1_method_12_code
def yX7_clear : MethodName := ⟨RX7, "clear", "()I"⟩
abbrev cX7_record : ByteArray := prog_1_method_13_code
def yX7_record : MethodName := ⟨RX7, "record", "(I)I"⟩
abbrev cX7_setTimes : ByteArray := prog_1_method_14_code
def yX7_setTimes : MethodName := ⟨RX7, "setTimes", "(IIII)I"⟩
abbrev cX7_setFollow : ByteArray := prog_1_method_15_code
def yX7_setFollow : MethodName := ⟨RX7, "setFollow", "(III)I"⟩
abbrev cX7_setLink : ByteArray := prog_1_method_16_code
def yX7_setLink : MethodName := ⟨RX7, "setLink", "(III)I"⟩
abbrev cX7_setCode : ByteArray := prog_1_method_17_code
def yX7_setCode : MethodName := ⟨RX7, "setCode", "(III)I"⟩
abbrev cX7_setAssert : ByteArray := prog_1_method_18_code
def yX7_setAssert : MethodName := ⟨RX7, "setAssert", "(IIZ)Z"⟩
abbrev cX7_setMaster : ByteArray := prog_1_method_19_code
def yX7_setMaster : MethodName := ⟨RX7, "setMaster", "(II)I"⟩
abbrev cX7_setPriority : ByteArray := prog_1_method_20_code
def yX7_setPriority : MethodName := ⟨RX7, "setPriority", "(II)I"⟩
abbrev cX7_go : ByteArray := prog_1_method_21_code
def yX7_go : MethodName := ⟨RX7, "go", "(I)I"⟩
abbrev cX7_goTo : ByteArray := prog_1_method_22_code
def yX7_goTo : MethodName := ⟨RX7, "goTo", "(II)I"⟩
abbrev cX7_release : ByteArray := prog_1_method_23_code
def yX7_release : MethodName := ⟨RX7, "release", "(I)I"⟩
abbrev cX7_update : ByteArray := prog_1_method_24_code
def yX7_update : MethodName := ⟨RX7, "update", "(I)I"⟩
abbrev cX7_pass : ByteArray := prog_1_method_25_code
def yX7_pass : MethodName := ⟨RX7, "pass", "(I)I"⟩
abbrev cX7_code : ByteArray := prog_1_method_26_code
def yX7_code : MethodName := ⟨RX7, "code", "(I)I"⟩
abbrev cX7_addEffect : ByteArray := prog_1_method_27_code
def yX7_addEffect : MethodName := ⟨RX7, "addEffect", "(IICIII)I"⟩
abbrev cX7_start : ByteArray := prog_1_method_28_code
def yX7_start : MethodName := ⟨RX7, "start", "(I)I"⟩
abbrev cX7_stop : ByteArray := prog_1_method_29_code
def yX7_stop : MethodName := ⟨RX7, "stop", "(I)I"⟩
abbrev cX7_output : ByteArray := prog_1_method_30_code
def yX7_output : MethodName := ⟨RX7, "output", "(II)I"⟩
abbrev cX7_outputBits : ByteArray := prog_1_method_31_code
def yX7_outputBits : MethodName := ⟨RX7, "outputBits", "(II)I"⟩
abbrev cX7_line : ByteArray := prog_1_method_32_code
def yX7_line : MethodName := ⟨RX7, "line", "(I)I"⟩
abbrev cX7_decides : ByteArray := prog_1_method_33_code
def yX7_decides : MethodName := ⟨RX7, "decides", "(II)I"⟩
abbrev cX7_valueIn : ByteArray := prog_1_method_34_code
def yX7_valueIn : MethodName := ⟨RX7, "valueIn", "(III)I"⟩
abbrev cX7_tracked : ByteArray := prog_1_method_35_code
def yX7_tracked : MethodName := ⟨RX7, "tracked", "(IIII)I"⟩
abbrev cX7_source : ByteArray := prog_1_method_36_code
def yX7_source : MethodName := ⟨RX7, "source", "(IIII)I"⟩
abbrev cX7_paletteOf : ByteArray := prog_1_method_37_code
def yX7_paletteOf : MethodName := ⟨RX7, "paletteOf", "(IIII)I"⟩
abbrev cX7_cueOf : ByteArray := prog_1_method_38_code
def yX7_cueOf : MethodName := ⟨RX7, "cueOf", "(I)I"⟩
abbrev cX7_cues : ByteArray := prog_1_method_39_code
def yX7_cues : MethodName := ⟨RX7, "cues", "(I)I"⟩
abbrev cX7_isFading : ByteArray := prog_1_method_40_code
def yX7_isFading : MethodName := ⟨RX7, "isFading", "(I)Z"⟩
abbrev cX7_time : ByteArray := prog_1_method_41_code
def yX7_time : MethodName := ⟨RX7, "time", "()I"⟩
abbrev cX7_sum : ByteArray := prog_1_method_42_code
def yX7_sum : MethodName := ⟨RX7, "sum", "()J"⟩
abbrev cX7_litShare : ByteArray := prog_1_method_43_code
def yX7_litShare : MethodName := ⟨RX7, "litShare", "()F"⟩
abbrev cX7_meanStored : ByteArray := prog_1_method_44_code
def yX7_meanStored : MethodName := ⟨RX7, "meanStored", "()D"⟩
abbrev cX7_isSound : ByteArray := prog_1_method_45_code
def yX7_isSound : MethodName := ⟨RX7, "isSound", "()Z"⟩
abbrev cX7_runEffect : ByteArray := prog_1_method_46_code
def yX7_runEffect : MethodName := ⟨RX7, "runEffect", "(II)I"⟩
abbrev cX7_needLamp : ByteArray := prog_1_method_47_code
def yX7_needLamp : MethodName := ⟨RX7, "needLamp", "(I)V"⟩
abbrev cX7_needAttribute : ByteArray := prog_1_method_48_code
def yX7_needAttribute : MethodName := ⟨RX7, "needAttribute", "(I)V"⟩
abbrev cX7_needSlot : ByteArray := prog_1_method_49_code
def yX7_needSlot : MethodName := ⟨RX7, "needSlot", "(II)V"⟩
abbrev cX7_needGroup : ByteArray := prog_1_method_50_code
def yX7_needGroup : MethodName := ⟨RX7, "needGroup", "(I)V"⟩
abbrev cX7_needPalette : ByteArray := prog_1_method_51_code
def yX7_needPalette : MethodName := ⟨RX7, "needPalette", "(I)V"⟩
abbrev cX7_needEffect : ByteArray := prog_1_method_52_code
def yX7_needEffect : MethodName := ⟨RX7, "needEffect", "(I)V"⟩
abbrev cX7_needList : ByteArray := prog_1_method_53_code
def yX7_needList : MethodName := ⟨RX7, "needList", "(I)V"⟩
abbrev cX7_needCue : ByteArray := prog_1_method_54_code
def yX7_needCue : MethodName := ⟨RX7, "needCue", "(II)V"⟩
abbrev cX7_needPresentCue : ByteArray := prog_1_method_55_code
def yX7_needPresentCue : MethodName := ⟨RX7, "needPresentCue", "(I)V"⟩
abbrev cX7_needEntry : ByteArray := prog_1_method_56_code
def yX7_needEntry : MethodName := ⟨RX7, "needEntry", "(IIII)I"⟩
abbrev cX7_needRange : ByteArray := prog_1_method_57_code
def yX7_needRange : MethodName := ⟨RX7, "needRange", "(III)V"⟩
abbrev cX7_slotOf : ByteArray := prog_1_method_58_code
def yX7_slotOf : MethodName := ⟨RX7, "slotOf", "(II)I"⟩
abbrev cX7_isPalette : ByteArray := prog_1_method_59_code
def yX7_isPalette : MethodName := ⟨RX7, "isPalette", "(I)Z"⟩
abbrev cX7_bitsOf : ByteArray := prog_1_method_60_code
def yX7_bitsOf : MethodName := ⟨RX7, "bitsOf", "(F)I"⟩
def RX8 : String := "LampboardModel"
def TX8 : u_T := fun k => match k with
  | 0 => ("LampboardModel", "thrown", "I", false)
  | 1 => ("LampboardModel", "lamps", "I", false)
  | 2 => ("LampboardModel", "groups", "I", false)
  | 3 => ("LampboardModel", "palettes", "I", false)
  | 4 => ("LampboardModel", "effects", "I", false)
  | 5 => ("LampboardModel", "time", "I", false)
  | 6 => ("LampboardModel", "began", "I", false)
  | 7 => ("LampboardModel", "lineOf", "[I", true)
  | 8 => ("LampboardModel", "members", "[I", true)
  | 9 => ("LampboardModel", "memberCount", "[I", true)
  | 10 => ("LampboardModel", "paletteKind", "[I", true)
  | 11 => ("LampboardModel", "paletteValue", "[I", true)
  | 12 => ("LampboardModel", "programmer", "[I", true)
  | 13 => ("LampboardModel", "cueCount", "[I", true)
  | 14 => ("LampboardModel", "present", "[I", true)
  | 15 => ("LampboardModel", "presentSince", "[I", true)
  | 16 => ("LampboardModel", "master", "[I", true)
  | 17 => ("LampboardModel", "priority", "[I", true)
  | 18 => ("LampboardModel", "stored", "[I", true)
  | 19 => ("LampboardModel", "delay", "[I", true)
  | 20 => ("LampboardModel", "fadeTime", "[I", true)
  | 21 => ("LampboardModel", "follow", "[I", true)
  | 22 => ("LampboardModel", "link", "[I", true)
  | 23 => ("LampboardModel", "codeOf", "[I", true)
  | 24 => ("LampboardModel", "asserts", "[Z", true)
  | 25 => ("LampboardModel", "hasFade", "[Z", true)
  | 26 => ("LampboardModel", "isNew", "[Z", true)
  | 27 => ("LampboardModel", "fadeStart", "[I", true)
  | 28 => ("LampboardModel", "fadeTakes", "[I", true)
  | 29 => ("LampboardModel", "fadeOrder", "[I", true)
  | 30 => ("LampboardModel", "fadeFrom", "[F", true)
  | 31 => ("LampboardModel", "begun", "[F", true)
  | 32 => ("LampboardModel", "effectGroup", "[I", true)
  | 33 => ("LampboardModel", "effectKind", "[I", true)
  | 34 => ("LampboardModel", "effectShape", "[I", true)
  | 35 => ("LampboardModel", "effectSize", "[I", true)
  | 36 => ("LampboardModel", "effectPeriod", "[I", true)
  | 37 => ("LampboardModel", "effectSpread", "[I", true)
  | 38 => ("LampboardModel", "effectStart", "[I", true)
  | 39 => ("LampboardModel", "runs", "[Z", true)
  | _ => ("LampboardModel", "decider", "I", false)
def tyX8 : Nat → FieldType := fun k => match k with
  | 0 => .int
  | 1 => .int
  | 2 => .int
  | 3 => .int
  | 4 => .int
  | 5 => .int
  | 6 => .int
  | 7 => .array .int
  | 8 => .array .int
  | 9 => .array .int
  | 10 => .array .int
  | 11 => .array .int
  | 12 => .array .int
  | 13 => .array .int
  | 14 => .array .int
  | 15 => .array .int
  | 16 => .array .int
  | 17 => .array .int
  | 18 => .array .int
  | 19 => .array .int
  | 20 => .array .int
  | 21 => .array .int
  | 22 => .array .int
  | 23 => .array .int
  | 24 => .array .boolean
  | 25 => .array .boolean
  | 26 => .array .boolean
  | 27 => .array .int
  | 28 => .array .int
  | 29 => .array .int
  | 30 => .array .float
  | 31 => .array .float
  | 32 => .array .int
  | 33 => .array .int
  | 34 => .array .int
  | 35 => .array .int
  | 36 => .array .int
  | 37 => .array .int
  | 38 => .array .int
  | 39 => .array .boolean
  | _ => .int
abbrev wsX80 : List Cond := u_ws RX8 TX8 41
theorem nmX8 : ∀ a, a < 41 → ∀ b, b < 41 → a ≠ b → (TX8 a).2.1 ≠ (TX8 b).2.1 := by decide +kernel
theorem tyX8_ok : ∀ k, k < 41 → parseFieldDescriptor (TX8 k).2.2.1 = some (tyX8 k) := by decide +kernel
abbrev cX8_init : ByteArray := prog_10_method_1_code
def yX8_init : MethodName := ⟨RX8, "<init>", "()V"⟩
abbrev cX8_thrown : ByteArray := prog_10_method_2_code
def yX8_thrown : MethodName := ⟨RX8, "thrown", "()I"⟩
abbrev cX8_fails : ByteArray := prog_10_method_3_code
def yX8_fails : MethodName := ⟨RX8, "fails", "(I)I"⟩
abbrev cX8_in : ByteArray := prog_10_method_4_code
def yX8_in : MethodName := ⟨RX8, "in", "(III)Z"⟩
abbrev cX8_isLamp : ByteArray := prog_10_method_5_code
def yX8_isLamp : MethodName := ⟨RX8, "isLamp", "(I)Z"⟩
abbrev cX8_isList : ByteArray := prog_10_method_6_code
def yX8_isList : MethodName := ⟨RX8, "isList", "(I)Z"⟩
abbrev cX8_isCue : ByteArray := prog_10_method_7_code
def yX8_isCue : MethodName := ⟨RX8, "isCue", "(II)Z"⟩
abbrev cX8_valueOf : ByteArray := prog_10_method_8_code
def yX8_valueOf : MethodName := ⟨RX8, "valueOf", "(I)I"⟩
abbrev cX8_countProgrammer : ByteArray := prog_10_method_9_code
def yX8_countProgrammer : MethodName := ⟨RX8, "countProgrammer", "()I"⟩
abbrev cX8_empties : ByteArray := prog_10_method_10_code
def yX8_empties : MethodName := ⟨RX8, "empties", "()V"⟩
abbrev cX8_at : ByteArray := prog_10_method_11_code
def yX8_at : MethodName := ⟨RX8, "at", "(III)I"⟩
abbrev cX8_sourceOf : ByteArray := prog_10_method_12_code
def yX8_sourceOf : MethodName := ⟨RX8, "sourceOf", "(III)I"⟩
abbrev cX8_trackedIn : ByteArray := prog_10_method_13_code
def yX8_trackedIn : MethodName := ⟨RX8, "trackedIn", "(III)I"⟩
abbrev cX8_valueOfFade : ByteArray := prog_10_method_14_code
def yX8_valueOfFade : MethodName := ⟨RX8, "valueOfFade", "(II)F"⟩
abbrev cX8_decided : ByteArray := prog_10_method_15_code
def yX8_decided : MethodName := ⟨RX8, "decided", "(I)F"⟩
abbrev cX8_memberAt : ByteArray := prog_10_method_16_code
def yX8_memberAt : MethodName := ⟨RX8, "memberAt", "(II)I"⟩
abbrev cX8_effect : ByteArray := prog_10_method_17_code
def yX8_effect : MethodName := ⟨RX8, "effect", "(II)F"⟩
abbrev cX8_put : ByteArray := prog_10_method_18_code
def yX8_put : MethodName := ⟨RX8, "put", "(I)F"⟩
abbrev cX8_begins : ByteArray := prog_10_method_19_code
def yX8_begins : MethodName := ⟨RX8, "begins", "(II)I"⟩
abbrev cX8_nextOf : ByteArray := prog_10_method_20_code
def yX8_nextOf : MethodName := ⟨RX8, "nextOf", "(I)I"⟩
abbrev cX8_addLamp : ByteArray := prog_10_method_21_code
def yX8_addLamp : MethodName := ⟨RX8, "addLamp", "()I"⟩
abbrev cX8_patch : ByteArray := prog_10_method_22_code
def yX8_patch : MethodName := ⟨RX8, "patch", "(II)I"⟩
abbrev cX8_addGroup : ByteArray := prog_10_method_23_code
def yX8_addGroup : MethodName := ⟨RX8, "addGroup", "()I"⟩
abbrev cX8_addToGroup : ByteArray := prog_10_method_24_code
def yX8_addToGroup : MethodName := ⟨RX8, "addToGroup", "(II)I"⟩
abbrev cX8_isKind : ByteArray := prog_10_method_25_code
def yX8_isKind : MethodName := ⟨RX8, "isKind", "(I)Z"⟩
abbrev cX8_isByte : ByteArray := prog_10_method_26_code
def yX8_isByte : MethodName := ⟨RX8, "isByte", "(I)Z"⟩
abbrev cX8_addPalette : ByteArray := prog_10_method_27_code
def yX8_addPalette : MethodName := ⟨RX8, "addPalette", "(II)I"⟩
abbrev cX8_setPalette : ByteArray := prog_10_method_28_code
def yX8_setPalette : MethodName := ⟨RX8, "setPalette", "(II)I"⟩
abbrev cX8_set : ByteArray := prog_10_method_29_code
def yX8_set : MethodName := ⟨RX8, "set", "(III)I"⟩
abbrev cX8_point : ByteArray := prog_10_method_30_code
def yX8_point : MethodName := ⟨RX8, "point", "(II)I"⟩
abbrev cX8_fan : ByteArray := prog_10_method_31_code
def yX8_fan : MethodName := ⟨RX8, "fan", "(IIII)I"⟩
abbrev cX8_knockOut : ByteArray := prog_10_method_32_code
def yX8_knockOut : MethodName := ⟨RX8, "knockOut", "(II)I"⟩
abbrev cX8_clear : ByteArray := prog_10_method_33_code
def yX8_clear : MethodName := ⟨RX8, "clear", "()I"⟩
abbrev cX8_record : ByteArray := prog_10_method_34_code
def yX8_record : MethodName := ⟨RX8, "record", "(I)I"⟩
abbrev cX8_setTimes : ByteArray := prog_10_method_35_code
def yX8_setTimes : MethodName := ⟨RX8, "setTimes", "(IIII)I"⟩
abbrev cX8_setFollow : ByteArray := prog_10_method_36_code
def yX8_setFollow : MethodName := ⟨RX8, "setFollow", "(III)I"⟩
abbrev cX8_setLink : ByteArray := prog_10_method_37_code
def yX8_setLink : MethodName := ⟨RX8, "setLink", "(III)I"⟩
abbrev cX8_setCode : ByteArray := prog_10_method_38_code
def yX8_setCode : MethodName := ⟨RX8, "setCode", "(III)I"⟩
abbrev cX8_setAssert : ByteArray := prog_10_method_39_code
def yX8_setAssert : MethodName := ⟨RX8, "setAssert", "(IIZ)Z"⟩
abbrev cX8_setMaster : ByteArray := prog_10_method_40_code
def yX8_setMaster : MethodName := ⟨RX8, "setMaster", "(II)I"⟩
abbrev cX8_setPriority : ByteArray := prog_10_method_41_code
def yX8_setPriority : MethodName := ⟨RX8, "setPriority", "(II)I"⟩
abbrev cX8_go : ByteArray := prog_10_method_42_code
def yX8_go : MethodName := ⟨RX8, "go", "(I)I"⟩
abbrev cX8_goTo : ByteArray := prog_10_method_43_code
def yX8_goTo : MethodName := ⟨RX8, "goTo", "(II)I"⟩
abbrev cX8_release : ByteArray := prog_10_method_44_code
def yX8_release : MethodName := ⟨RX8, "release", "(I)I"⟩
abbrev cX8_update : ByteArray := prog_10_method_45_code
def yX8_update : MethodName := ⟨RX8, "update", "(I)I"⟩
abbrev cX8_pass : ByteArray := prog_10_method_46_code
def yX8_pass : MethodName := ⟨RX8, "pass", "(I)I"⟩
abbrev cX8_code : ByteArray := prog_10_method_47_code
def yX8_code : MethodName := ⟨RX8, "code", "(I)I"⟩
abbrev cX8_addEffect : ByteArray := prog_10_method_48_code
def yX8_addEffect : MethodName := ⟨RX8, "addEffect", "(IICIII)I"⟩
abbrev cX8_countRunning : ByteArray := prog_10_method_49_code
def yX8_countRunning : MethodName := ⟨RX8, "countRunning", "()I"⟩
abbrev cX8_start : ByteArray := prog_10_method_50_code
def yX8_start : MethodName := ⟨RX8, "start", "(I)I"⟩
abbrev cX8_stop : ByteArray := prog_10_method_51_code
def yX8_stop : MethodName := ⟨RX8, "stop", "(I)I"⟩
abbrev cX8_isSlot : ByteArray := prog_10_method_52_code
def yX8_isSlot : MethodName := ⟨RX8, "isSlot", "(II)Z"⟩
abbrev cX8_output : ByteArray := prog_10_method_53_code
def yX8_output : MethodName := ⟨RX8, "output", "(II)I"⟩
abbrev cX8_outputBits : ByteArray := prog_10_method_54_code
def yX8_outputBits : MethodName := ⟨RX8, "outputBits", "(II)I"⟩
abbrev cX8_lineValue : ByteArray := prog_10_method_55_code
def yX8_lineValue : MethodName := ⟨RX8, "lineValue", "(I)I"⟩
abbrev cX8_line : ByteArray := prog_10_method_56_code
def yX8_line : MethodName := ⟨RX8, "line", "(I)I"⟩
abbrev cX8_decides : ByteArray := prog_10_method_57_code
def yX8_decides : MethodName := ⟨RX8, "decides", "(II)I"⟩
abbrev cX8_valueIn : ByteArray := prog_10_method_58_code
def yX8_valueIn : MethodName := ⟨RX8, "valueIn", "(III)I"⟩
abbrev cX8_entryOf : ByteArray := prog_10_method_59_code
def yX8_entryOf : MethodName := ⟨RX8, "entryOf", "(IIII)I"⟩
abbrev cX8_tracked : ByteArray := prog_10_method_60_code
def yX8_tracked : MethodName := ⟨RX8, "tracked", "(IIII)I"⟩
abbrev cX8_source : ByteArray := prog_10_method_61_code
def yX8_source : MethodName := ⟨RX8, "source", "(IIII)I"⟩
abbrev cX8_paletteOf : ByteArray := prog_10_method_62_code
def yX8_paletteOf : MethodName := ⟨RX8, "paletteOf", "(IIII)I"⟩
abbrev cX8_cueOf : ByteArray := prog_10_method_63_code
def yX8_cueOf : MethodName := ⟨RX8, "cueOf", "(I)I"⟩
abbrev cX8_cues : ByteArray := prog_10_method_64_code
def yX8_cues : MethodName := ⟨RX8, "cues", "(I)I"⟩
abbrev cX8_isFading : ByteArray := prog_10_method_65_code
def yX8_isFading : MethodName := ⟨RX8, "isFading", "(I)Z"⟩
abbrev cX8_time : ByteArray := prog_10_method_66_code
def yX8_time : MethodName := ⟨RX8, "time", "()I"⟩
abbrev cX8_sum : ByteArray := prog_10_method_67_code
def yX8_sum : MethodName := ⟨RX8, "sum", "()J"⟩
abbrev cX8_litShare : ByteArray := prog_10_method_68_code
def yX8_litShare : MethodName := ⟨RX8, "litShare", "()F"⟩
abbrev cX8_meanStored : ByteArray := prog_10_method_69_code
def yX8_meanStored : MethodName := ⟨RX8, "meanStored", "()D"⟩
abbrev cX8_isSound : ByteArray := prog_10_method_70_code
def yX8_isSound : MethodName := ⟨RX8, "isSound", "()Z"⟩
def RJxf58ca : String := "java/lang/Float"
def TJxf58ca : u_T := fun k => match k with
  | _ => ("", "", "", false)
def tyJxf58ca : Nat → FieldType := fun k => match k with
  | _ => .int
abbrev wsJxf58ca0 : List Cond := u_ws RJxf58ca TJxf58ca 0
theorem nmJxf58ca : ∀ a, a < 0 → ∀ b, b < 0 → a ≠ b → (TJxf58ca a).2.1 ≠ (TJxf58ca b).2.1 := by decide +kernel
theorem tyJxf58ca_ok : ∀ k, k < 0 → parseFieldDescriptor (TJxf58ca k).2.2.1 = some (tyJxf58ca k) := by decide +kernel
abbrev cJxf58ca_isNaN_12338 : ByteArray := prog_16_method_6_code
def yJxf58ca_isNaN_12338 : MethodName := ⟨RJxf58ca, "isNaN", "(F)Z"⟩
abbrev cJxf58ca_floatToIntBits_5c35a : ByteArray := prog_16_method_24_code
def yJxf58ca_floatToIntBits_5c35a : MethodName := ⟨RJxf58ca, "floatToIntBits", "(F)I"⟩
def RL : String := "LampboardLaw"
abbrev cL_addLamp : ByteArray := method_3_code
def yL_addLamp : MethodName := ⟨RL, "addLamp", "(LLampboard;[J)I"⟩
abbrev cL_patch : ByteArray := method_4_code
def yL_patch : MethodName := ⟨RL, "patch", "(LLampboard;II[J)I"⟩
abbrev cL_addGroup : ByteArray := method_5_code
def yL_addGroup : MethodName := ⟨RL, "addGroup", "(LLampboard;[J)I"⟩
abbrev cL_addToGroup : ByteArray := method_6_code
def yL_addToGroup : MethodName := ⟨RL, "addToGroup", "(LLampboard;II[J)I"⟩
abbrev cL_addPalette : ByteArray := method_7_code
def yL_addPalette : MethodName := ⟨RL, "addPalette", "(LLampboard;II[J)I"⟩
abbrev cL_setPalette : ByteArray := method_8_code
def yL_setPalette : MethodName := ⟨RL, "setPalette", "(LLampboard;II[J)I"⟩
abbrev cL_set : ByteArray := method_9_code
def yL_set : MethodName := ⟨RL, "set", "(LLampboard;III[J)I"⟩
abbrev cL_point : ByteArray := method_10_code
def yL_point : MethodName := ⟨RL, "point", "(LLampboard;II[J)I"⟩
abbrev cL_fan : ByteArray := method_11_code
def yL_fan : MethodName := ⟨RL, "fan", "(LLampboard;IIII[J)I"⟩
abbrev cL_knockOut : ByteArray := method_12_code
def yL_knockOut : MethodName := ⟨RL, "knockOut", "(LLampboard;II[J)I"⟩
abbrev cL_record : ByteArray := method_13_code
def yL_record : MethodName := ⟨RL, "record", "(LLampboard;I[J)I"⟩
abbrev cL_setTimes : ByteArray := method_14_code
def yL_setTimes : MethodName := ⟨RL, "setTimes", "(LLampboard;IIII[J)I"⟩
abbrev cL_setFollow : ByteArray := method_15_code
def yL_setFollow : MethodName := ⟨RL, "setFollow", "(LLampboard;III[J)I"⟩
abbrev cL_setLink : ByteArray := method_16_code
def yL_setLink : MethodName := ⟨RL, "setLink", "(LLampboard;III[J)I"⟩
abbrev cL_setCode : ByteArray := method_17_code
def yL_setCode : MethodName := ⟨RL, "setCode", "(LLampboard;III[J)I"⟩
abbrev cL_setAssert : ByteArray := method_18_code
def yL_setAssert : MethodName := ⟨RL, "setAssert", "(LLampboard;IIZ[J)I"⟩
abbrev cL_setMaster : ByteArray := method_19_code
def yL_setMaster : MethodName := ⟨RL, "setMaster", "(LLampboard;II[J)I"⟩
abbrev cL_setPriority : ByteArray := method_20_code
def yL_setPriority : MethodName := ⟨RL, "setPriority", "(LLampboard;II[J)I"⟩
abbrev cL_go : ByteArray := method_21_code
def yL_go : MethodName := ⟨RL, "go", "(LLampboard;I[J)I"⟩
abbrev cL_goTo : ByteArray := method_22_code
def yL_goTo : MethodName := ⟨RL, "goTo", "(LLampboard;II[J)I"⟩
abbrev cL_release : ByteArray := method_23_code
def yL_release : MethodName := ⟨RL, "release", "(LLampboard;I[J)I"⟩
abbrev cL_update : ByteArray := method_24_code
def yL_update : MethodName := ⟨RL, "update", "(LLampboard;I[J)I"⟩
abbrev cL_pass : ByteArray := method_25_code
def yL_pass : MethodName := ⟨RL, "pass", "(LLampboard;I[J)I"⟩
abbrev cL_code : ByteArray := method_26_code
def yL_code : MethodName := ⟨RL, "code", "(LLampboard;I[J)I"⟩
abbrev cL_addEffect : ByteArray := method_27_code
def yL_addEffect : MethodName := ⟨RL, "addEffect", "(LLampboard;IICIII[J)I"⟩
abbrev cL_start : ByteArray := method_28_code
def yL_start : MethodName := ⟨RL, "start", "(LLampboard;I[J)I"⟩
abbrev cL_stop : ByteArray := method_29_code
def yL_stop : MethodName := ⟨RL, "stop", "(LLampboard;I[J)I"⟩
abbrev cL_output : ByteArray := method_30_code
def yL_output : MethodName := ⟨RL, "output", "(LLampboard;II[J)I"⟩
abbrev cL_outputBits : ByteArray := method_31_code
def yL_outputBits : MethodName := ⟨RL, "outputBits", "(LLampboard;II[J)I"⟩
abbrev cL_line : ByteArray := method_32_code
def yL_line : MethodName := ⟨RL, "line", "(LLampboard;I[J)I"⟩
abbrev cL_decides : ByteArray := method_33_code
def yL_decides : MethodName := ⟨RL, "decides", "(LLampboard;II[J)I"⟩
abbrev cL_valueIn : ByteArray := method_34_code
def yL_valueIn : MethodName := ⟨RL, "valueIn", "(LLampboard;III[J)I"⟩
abbrev cL_tracked : ByteArray := method_35_code
def yL_tracked : MethodName := ⟨RL, "tracked", "(LLampboard;IIII[J)I"⟩
abbrev cL_source : ByteArray := method_36_code
def yL_source : MethodName := ⟨RL, "source", "(LLampboard;IIII[J)I"⟩
abbrev cL_paletteOf : ByteArray := method_37_code
def yL_paletteOf : MethodName := ⟨RL, "paletteOf", "(LLampboard;IIII[J)I"⟩
abbrev cL_cueOf : ByteArray := method_38_code
def yL_cueOf : MethodName := ⟨RL, "cueOf", "(LLampboard;I[J)I"⟩
abbrev cL_cues : ByteArray := method_39_code
def yL_cues : MethodName := ⟨RL, "cues", "(LLampboard;I[J)I"⟩
abbrev cL_isFading : ByteArray := method_40_code
def yL_isFading : MethodName := ⟨RL, "isFading", "(LLampboard;I[J)I"⟩
abbrev cL_litShare : ByteArray := method_41_code
def yL_litShare : MethodName := ⟨RL, "litShare", "(LLampboard;[D)I"⟩
abbrev cL_meanStored : ByteArray := method_42_code
def yL_meanStored : MethodName := ⟨RL, "meanStored", "(LLampboard;[D)I"⟩
abbrev cL_law : ByteArray := code
def yL_law : MethodName := ⟨RL, "law", "([I)Z"⟩
abbrev vw9 : List vw_C := [(RX0, TX0, 7), (RX1, TX1, 10), (RX2, TX2, 11), (RX3, TX3, 7), (RX4, TX4, 2), (RX5, TX5, 2), (RX6, TX6, 3), (RX7, TX7, 2), (RX8, TX8, 41)]
end
section
def kX0_init : Nat := 0
def kX0_changeTimes : Nat := 1
def kX0_changeFollow : Nat := 2
def kX0_changeLink : Nat := 3
def kX0_changeCode : Nat := 4
def kX0_changeAssert : Nat := 5
def kX1_init : Nat := 6
def kX1_changeMaster : Nat := 7
def kX1_changePriority : Nat := 8
def kX1_sourceOf : Nat := 9
def kX1_entryOf : Nat := 10
def kX1_nextCue : Nat := 11
def kX1_cueThatFollows : Nat := 12
def kX1_cueForCode : Nat := 13
def kX1_hasFade : Nat := 14
def kX1_needsNewFade : Nat := 15
def kX1_startFade : Nat := 16
def kX1_fadeValue : Nat := 17
def kX1_putOut : Nat := 18
def kX1_hasOpenFade : Nat := 19
def kX1_letGo : Nat := 20
def kX1_storedInAll : Nat := 21
def kX1_tracksAsGoneThrough : Nat := 22
def kX2_init : Nat := 23
def kX2_placeLamp : Nat := 24
def kX2_meetsAnotherLamp : Nat := 25
def kX2_moveLamp : Nat := 26
def kX2_formGroup : Nat := 27
def kX2_spreadOver : Nat := 28
def kX2_cueAt : Nat := 29
def kX2_storeCue : Nat := 30
def kX2_advance : Nat := 31
def kX2_begin : Nat := 32
def kX2_updateList : Nat := 33
def kX2_updateSlot : Nat := 34
def kX2_goOn : Nat := 35
def kX2_takeCode : Nat := 36
def kX2_nextEffect : Nat := 37
def kX2_runningEffects : Nat := 38
def kX2_decider : Nat := 39
def kX2_settled : Nat := 40
def kX2_shown : Nat := 41
def kX2_lineValue : Nat := 42
def kX3_init : Nat := 43
def kX3_describe : Nat := 44
def kX3_runs : Nat := 45
def kX3_wave : Nat := 46
def kX4_init : Nat := 47
def kX4_has : Nat := 48
def kX4_put : Nat := 49
def kX4_drop : Nat := 50
def kX4_empty : Nat := 51
def kX4_copy : Nat := 52
def kX5_init : Nat := 53
def kX5_placeOf : Nat := 54
def kX5_join : Nat := 55
def kX6_init : Nat := 56
def kX6_mix : Nat := 57
def kX6_change : Nat := 58
def kX6_numberOf : Nat := 59
def kX7_init : Nat := 60
def kX7_addLamp : Nat := 61
def kX7_patch : Nat := 62
def kX7_addGroup : Nat := 63
def kX7_addToGroup : Nat := 64
def kX7_addPalette : Nat := 65
def kX7_setPalette : Nat := 66
def kX7_set : Nat := 67
def kX7_point : Nat := 68
def kX7_fan : Nat := 69
def kX7_knockOut : Nat := 70
def kX7_clear : Nat := 71
def kX7_record : Nat := 72
def kX7_setTimes : Nat := 73
def kX7_setFollow : Nat := 74
def kX7_setLink : Nat := 75
def kX7_setCode : Nat := 76
def kX7_setAssert : Nat := 77
def kX7_setMaster : Nat := 78
def kX7_setPriority : Nat := 79
def kX7_go : Nat := 80
def kX7_goTo : Nat := 81
def kX7_release : Nat := 82
def kX7_update : Nat := 83
def kX7_pass : Nat := 84
def kX7_code : Nat := 85
def kX7_addEffect : Nat := 86
def kX7_start : Nat := 87
def kX7_stop : Nat := 88
def kX7_output : Nat := 89
def kX7_outputBits : Nat := 90
def kX7_line : Nat := 91
def kX7_decides : Nat := 92
def kX7_valueIn : Nat := 93
def kX7_tracked : Nat := 94
def kX7_source : Nat := 95
def kX7_paletteOf : Nat := 96
def kX7_cueOf : Nat := 97
def kX7_cues : Nat := 98
def kX7_isFading : Nat := 99
def kX7_time : Nat := 100
def kX7_sum : Nat := 101
def kX7_litShare : Nat := 102
def kX7_meanStored : Nat := 103
def kX7_isSound : Nat := 104
def kX7_runEffect : Nat := 105
def kX7_needLamp : Nat := 106
def kX7_needAttribute : Nat := 107
def kX7_needSlot : Nat := 108
def kX7_needGroup : Nat := 109
def kX7_needPalette : Nat := 110
def kX7_needEffect : Nat := 111
def kX7_needList : Nat := 112
def kX7_needCue : Nat := 113
def kX7_needPresentCue : Nat := 114
def kX7_needEntry : Nat := 115
def kX7_needRange : Nat := 116
def kX7_slotOf : Nat := 117
def kX7_isPalette : Nat := 118
def kX7_bitsOf : Nat := 119
def kX8_init : Nat := 120
def kX8_thrown : Nat := 121
def kX8_fails : Nat := 122
def kX8_in : Nat := 123
def kX8_isLamp : Nat := 124
def kX8_isList : Nat := 125
def kX8_isCue : Nat := 126
def kX8_valueOf : Nat := 127
def kX8_countProgrammer : Nat := 128
def kX8_empties : Nat := 129
def kX8_at : Nat := 130
def kX8_sourceOf : Nat := 131
def kX8_trackedIn : Nat := 132
def kX8_valueOfFade : Nat := 133
def kX8_decided : Nat := 134
def kX8_memberAt : Nat := 135
def kX8_effect : Nat := 136
def kX8_put : Nat := 137
def kX8_begins : Nat := 138
def kX8_nextOf : Nat := 139
def kX8_addLamp : Nat := 140
def kX8_patch : Nat := 141
def kX8_addGroup : Nat := 142
def kX8_addToGroup : Nat := 143
def kX8_isKind : Nat := 144
def kX8_isByte : Nat := 145
def kX8_addPalette : Nat := 146
def kX8_setPalette : Nat := 147
def kX8_set : Nat := 148
def kX8_point : Nat := 149
def kX8_fan : Nat := 150
def kX8_knockOut : Nat := 151
def kX8_clear : Nat := 152
def kX8_record : Nat := 153
def kX8_setTimes : Nat := 154
def kX8_setFollow : Nat := 155
def kX8_setLink : Nat := 156
def kX8_setCode : Nat := 157
def kX8_setAssert : Nat := 158
def kX8_setMaster : Nat := 159
def kX8_setPriority : Nat := 160
def kX8_go : Nat := 161
def kX8_goTo : Nat := 162
def kX8_release : Nat := 163
def kX8_update : Nat := 164
def kX8_pass : Nat := 165
def kX8_code : Nat := 166
def kX8_addEffect : Nat := 167
def kX8_countRunning : Nat := 168
def kX8_start : Nat := 169
def kX8_stop : Nat := 170
def kX8_isSlot : Nat := 171
def kX8_output : Nat := 172
def kX8_outputBits : Nat := 173
def kX8_lineValue : Nat := 174
def kX8_line : Nat := 175
def kX8_decides : Nat := 176
def kX8_valueIn : Nat := 177
def kX8_entryOf : Nat := 178
def kX8_tracked : Nat := 179
def kX8_source : Nat := 180
def kX8_paletteOf : Nat := 181
def kX8_cueOf : Nat := 182
def kX8_cues : Nat := 183
def kX8_isFading : Nat := 184
def kX8_time : Nat := 185
def kX8_sum : Nat := 186
def kX8_litShare : Nat := 187
def kX8_meanStored : Nat := 188
def kX8_isSound : Nat := 189
def kJxf58ca_isNaN_12338 : Nat := 190
def kJxf58ca_floatToIntBits_5c35a : Nat := 191
def kL_addLamp : Nat := 192
def kL_patch : Nat := 193
def kL_addGroup : Nat := 194
def kL_addToGroup : Nat := 195
def kL_addPalette : Nat := 196
def kL_setPalette : Nat := 197
def kL_set : Nat := 198
def kL_point : Nat := 199
def kL_fan : Nat := 200
def kL_knockOut : Nat := 201
def kL_record : Nat := 202
def kL_setTimes : Nat := 203
def kL_setFollow : Nat := 204
def kL_setLink : Nat := 205
def kL_setCode : Nat := 206
def kL_setAssert : Nat := 207
def kL_setMaster : Nat := 208
def kL_setPriority : Nat := 209
def kL_go : Nat := 210
def kL_goTo : Nat := 211
def kL_release : Nat := 212
def kL_update : Nat := 213
def kL_pass : Nat := 214
def kL_code : Nat := 215
def kL_addEffect : Nat := 216
def kL_start : Nat := 217
def kL_stop : Nat := 218
def kL_output : Nat := 219
def kL_outputBits : Nat := 220
def kL_line : Nat := 221
def kL_decides : Nat := 222
def kL_valueIn : Nat := 223
def kL_tracked : Nat := 224
def kL_source : Nat := 225
def kL_paletteOf : Nat := 226
def kL_cueOf : Nat := 227
def kL_cues : Nat := 228
def kL_isFading : Nat := 229
def kL_litShare : Nat := 230
def kL_meanStored : Nat := 231
def kL_law : Nat := 232
def LcX0_init : List (Nat × Instr) := [(0, .aload_n 0), (1, .invokespecial 3), (4, .aload_n 0), (5, .new 9), (8, .dup), (9, .invokespecial 11), (12, .putfield 12), (15, .aload_n 0), (16, .iconst (-1)), (17, .putfield 18), (20, .aload_n 0), (21, .iconst (-1)), (22, .putfield 22), (25, .aload_n 0), (26, .iconst (-1)), (27, .putfield 25), (30, .return_)]
def LcX0_changeTimes : List (Nat × Instr) := [(0, .aload_n 0), (1, .getfield 28), (4, .aload_n 0), (5, .getfield 31), (8, .iadd), (9, .istore_n 3), (10, .aload_n 0), (11, .iload_n 1), (12, .putfield 28), (15, .aload_n 0), (16, .iload_n 2), (17, .putfield 31), (20, .iload_n 3), (21, .ireturn)]
def LcX0_changeFollow : List (Nat × Instr) := [(0, .aload_n 0), (1, .getfield 18), (4, .istore_n 2), (5, .aload_n 0), (6, .iload_n 1), (7, .putfield 18), (10, .iload_n 2), (11, .ireturn)]
def LcX0_changeLink : List (Nat × Instr) := [(0, .aload_n 0), (1, .getfield 22), (4, .istore_n 2), (5, .aload_n 0), (6, .iload_n 1), (7, .putfield 22), (10, .iload_n 2), (11, .ireturn)]
def LcX0_changeCode : List (Nat × Instr) := [(0, .aload_n 0), (1, .getfield 25), (4, .istore_n 2), (5, .aload_n 0), (6, .iload_n 1), (7, .putfield 25), (10, .iload_n 2), (11, .ireturn)]
def LcX0_changeAssert : List (Nat × Instr) := [(0, .aload_n 0), (1, .getfield 34), (4, .istore_n 2), (5, .aload_n 0), (6, .iload_n 1), (7, .putfield 34), (10, .iload_n 2), (11, .ireturn)]
def LcX1_init : List (Nat × Instr) := [(0, .aload_n 0), (1, .invokespecial 3), (4, .aload_n 0), (5, .bipush 12), (7, .anewarray 9), (10, .putfield 11), (13, .aload_n 0), (14, .iconst (-1)), (15, .putfield 17), (18, .aload_n 0), (19, .bipush 100), (21, .putfield 21), (24, .aload_n 0), (25, .iconst 5), (26, .putfield 24), (29, .aload_n 0), (30, .bipush 48), (32, .newarray .float), (34, .putfield 27), (37, .aload_n 0), (38, .bipush 48), (40, .newarray .int), (42, .putfield 31), (45, .aload_n 0), (46, .bipush 48), (48, .newarray .int), (50, .putfield 35), (53, .aload_n 0), (54, .bipush 48), (56, .newarray .int), (58, .putfield 38), (61, .iconst 0), (62, .istore_n 1), (63, .iload_n 1), (64, .bipush 12), (66, .if_icmp .ge 22), (69, .aload_n 0), (70, .getfield 11), (73, .iload_n 1), (74, .new 9), (77, .dup), (78, .invokespecial 41), (81, .aastore), (82, .iinc 1 1), (85, .goto (-22)), (88, .return_)]
def LcX1_changeMaster : List (Nat × Instr) := [(0, .aload_n 0), (1, .getfield 21), (4, .istore_n 2), (5, .aload_n 0), (6, .iload_n 1), (7, .putfield 21), (10, .iload_n 2), (11, .ireturn)]
def LcX1_changePriority : List (Nat × Instr) := [(0, .aload_n 0), (1, .getfield 24), (4, .istore_n 2), (5, .aload_n 0), (6, .iload_n 1), (7, .putfield 24), (10, .iload_n 2), (11, .ireturn)]
def LcX1_sourceOf : List (Nat × Instr) := [(0, .iload_n 1), (1, .istore_n 3), (2, .iload_n 3), (3, .ifCond .lt 29), (6, .aload_n 0), (7, .getfield 11), (10, .iload_n 3), (11, .aaload), (12, .getfield 42), (15, .getfield 46), (18, .iload_n 2), (19, .iaload), (20, .iconst (-1)), (21, .if_icmp .eq 5), (24, .iload_n 3), (25, .ireturn), (26, .iinc 3 (-1)), (29, .goto (-27)), (32, .iconst (-1)), (33, .ireturn)]
def LcX1_entryOf : List (Nat × Instr) := [(0, .aload_n 0), (1, .iload_n 1), (2, .iload_n 2), (3, .invokevirtual 51), (6, .istore_n 3), (7, .iload_n 3), (8, .iconst (-1)), (9, .if_icmp .ne 7), (12, .iconst (-1)), (13, .goto 17), (16, .aload_n 0), (17, .getfield 11), (20, .iload_n 3), (21, .aaload), (22, .getfield 42), (25, .getfield 46), (28, .iload_n 2), (29, .iaload), (30, .ireturn)]
def LcX1_nextCue : List (Nat × Instr) := [(0, .aload_n 0), (1, .getfield 17), (4, .iconst 1), (5, .iadd), (6, .istore_n 1), (7, .aload_n 0), (8, .getfield 17), (11, .iconst (-1)), (12, .if_icmp .eq 32), (15, .aload_n 0), (16, .getfield 11), (19, .aload_n 0), (20, .getfield 17), (23, .aaload), (24, .getfield 55), (27, .iconst (-1)), (28, .if_icmp .eq 16), (31, .aload_n 0), (32, .getfield 11), (35, .aload_n 0), (36, .getfield 17), (39, .aaload), (40, .getfield 55), (43, .istore_n 1), (44, .iload_n 1), (45, .aload_n 0), (46, .getfield 58), (49, .if_icmp .ge 7), (52, .iload_n 1), (53, .goto 4), (56, .iconst (-1)), (57, .ireturn)]
def LcX1_cueThatFollows : List (Nat × Instr) := [(0, .aload_n 0), (1, .getfield 17), (4, .iconst (-1)), (5, .if_icmp .eq 19), (8, .aload_n 0), (9, .getfield 11), (12, .aload_n 0), (13, .getfield 17), (16, .aaload), (17, .getfield 61), (20, .iconst (-1)), (21, .if_icmp .ne 5), (24, .iconst (-1)), (25, .ireturn), (26, .iload_n 1), (27, .aload_n 0), (28, .getfield 64), (31, .isub), (32, .aload_n 0), (33, .getfield 11), (36, .aload_n 0), (37, .getfield 17), (40, .aaload), (41, .getfield 61), (44, .if_icmp .ne 10), (47, .aload_n 0), (48, .invokevirtual 67), (51, .goto 4), (54, .iconst (-1)), (55, .ireturn)]
def LcX1_cueForCode : List (Nat × Instr) := [(0, .iconst (-1)), (1, .istore_n 2), (2, .iconst 0), (3, .istore_n 3), (4, .iload_n 3), (5, .aload_n 0), (6, .getfield 58), (9, .if_icmp .ge 53), (12, .aload_n 0), (13, .getfield 11), (16, .iload_n 3), (17, .aaload), (18, .getfield 71), (21, .istore 4), (23, .iload 4), (25, .iconst (-1)), (26, .if_icmp .eq 30), (29, .iload 4), (31, .iload_n 1), (32, .if_icmp .gt 24), (35, .iload_n 2), (36, .iconst (-1)), (37, .if_icmp .eq 17), (40, .iload 4), (42, .aload_n 0), (43, .getfield 11), (46, .iload_n 2), (47, .aaload), (48, .getfield 71), (51, .if_icmp .le 5), (54, .iload_n 3), (55, .istore_n 2), (56, .iinc 3 1), (59, .goto (-55)), (62, .iload_n 2), (63, .ireturn)]
def LcX1_hasFade : List (Nat × Instr) := [(0, .aload_n 0), (1, .getfield 38), (4, .iload_n 1), (5, .iaload), (6, .ifCond .eq 7), (9, .iconst 1), (10, .goto 4), (13, .iconst 0), (14, .ireturn)]
def LcX1_needsNewFade : List (Nat × Instr) := [(0, .aload_n 0), (1, .iload_n 1), (2, .iload_n 2), (3, .invokevirtual 51), (6, .istore_n 3), (7, .iload_n 3), (8, .iload_n 1), (9, .if_icmp .eq 28), (12, .aload_n 0), (13, .getfield 11), (16, .iload_n 1), (17, .aaload), (18, .getfield 74), (21, .ifCond .ne 16), (24, .aload_n 0), (25, .aload_n 0), (26, .getfield 17), (29, .iload_n 2), (30, .invokevirtual 51), (33, .iload_n 3), (34, .if_icmp .eq 7), (37, .iconst 1), (38, .goto 4), (41, .iconst 0), (42, .ireturn)]
def LcX1_startFade : List (Nat × Instr) := [(0, .aload_n 0), (1, .getfield 27), (4, .iload_n 1), (5, .fload_n 3), (6, .fastore), (7, .aload_n 0), (8, .getfield 31), (11, .iload_n 1), (12, .iload 4), (14, .aload_n 0), (15, .getfield 11), (18, .iload_n 2), (19, .aaload), (20, .getfield 78), (23, .iadd), (24, .iastore), (25, .aload_n 0), (26, .getfield 35), (29, .iload_n 1), (30, .aload_n 0), (31, .getfield 11), (34, .iload_n 2), (35, .aaload), (36, .getfield 81), (39, .iastore), (40, .aload_n 0), (41, .getfield 38), (44, .iload_n 1), (45, .iload 5), (47, .iastore), (48, .return_)]
def LcX1_fadeValue : List (Nat × Instr) := [(0, .iload_n 2), (1, .aload_n 0), (2, .getfield 31), (5, .iload_n 1), (6, .iaload), (7, .isub), (8, .istore 4), (10, .aload_n 0), (11, .aload_n 0), (12, .getfield 17), (15, .iload_n 1), (16, .invokevirtual 51), (19, .istore 5), (21, .iload 4), (23, .ifCond .lt 9), (26, .iload 5), (28, .iconst (-1)), (29, .if_icmp .ne 10), (32, .aload_n 0), (33, .getfield 27), (36, .iload_n 1), (37, .faload), (38, .freturn), (39, .aload_n 3), (40, .aload_n 0), (41, .getfield 11), (44, .iload 5), (46, .aaload), (47, .getfield 42), (50, .getfield 46), (53, .iload_n 1), (54, .iaload), (55, .invokevirtual 84), (58, .i2f), (59, .fstore 6), (61, .iload_n 1), (62, .iconst 4), (63, .irem), (64, .iconst 3), (65, .if_icmp .eq 14), (68, .iload 4), (70, .aload_n 0), (71, .getfield 35), (74, .iload_n 1), (75, .iaload), (76, .if_icmp .lt 6), (79, .fload 6), (81, .freturn), (82, .aload_n 0), (83, .getfield 27), (86, .iload_n 1), (87, .faload), (88, .fload 6), (90, .aload_n 0), (91, .getfield 27), (94, .iload_n 1), (95, .faload), (96, .fsub), (97, .iload 4), (99, .i2f), (100, .aload_n 0), (101, .getfield 35), (104, .iload_n 1), (105, .iaload), (106, .i2f), (107, .fdiv), (108, .fmul), (109, .fadd), (110, .freturn)]
def LcX1_putOut : List (Nat × Instr) := [(0, .aload_n 0), (1, .iload_n 1), (2, .iload_n 2), (3, .aload_n 3), (4, .invokevirtual 90), (7, .fstore 4), (9, .iload_n 1), (10, .iconst 4), (11, .irem), (12, .ifCond .ne 17), (15, .fload 4), (17, .aload_n 0), (18, .getfield 21), (21, .i2f), (22, .ldc 94), (24, .fdiv), (25, .fmul), (26, .goto 5), (29, .fload 4), (31, .freturn)]
def LcX1_hasOpenFade : List (Nat × Instr) := [(0, .iconst 0), (1, .istore_n 2), (2, .iload_n 2), (3, .bipush 48), (5, .if_icmp .ge 56), (8, .iload_n 1), (9, .aload_n 0), (10, .getfield 31), (13, .iload_n 2), (14, .iaload), (15, .if_icmp .lt 20), (18, .iload_n 1), (19, .aload_n 0), (20, .getfield 31), (23, .iload_n 2), (24, .iaload), (25, .isub), (26, .aload_n 0), (27, .getfield 35), (30, .iload_n 2), (31, .iaload), (32, .if_icmp .ge 7), (35, .iconst 1), (36, .goto 4), (39, .iconst 0), (40, .istore_n 3), (41, .aload_n 0), (42, .iload_n 2), (43, .invokevirtual 95), (46, .ifCond .eq 9), (49, .iload_n 3), (50, .ifCond .eq 5), (53, .iconst 1), (54, .ireturn), (55, .iinc 2 1), (58, .goto (-56)), (61, .iconst 0), (62, .ireturn)]
def LcX1_letGo : List (Nat × Instr) := [(0, .iconst 0), (1, .istore_n 1), (2, .iconst 0), (3, .istore_n 2), (4, .iload_n 2), (5, .bipush 48), (7, .if_icmp .ge 32), (10, .iload_n 1), (11, .aload_n 0), (12, .iload_n 2), (13, .invokevirtual 95), (16, .ifCond .eq 7), (19, .iconst 1), (20, .goto 4), (23, .iconst 0), (24, .iadd), (25, .istore_n 1), (26, .aload_n 0), (27, .getfield 38), (30, .iload_n 2), (31, .iconst 0), (32, .iastore), (33, .iinc 2 1), (36, .goto (-32)), (39, .aload_n 0), (40, .iconst (-1)), (41, .putfield 17), (44, .iload_n 1), (45, .ireturn)]
def LcX1_storedInAll : List (Nat × Instr) := [(0, .iconst 0), (1, .istore_n 1), (2, .iconst 0), (3, .istore_n 2), (4, .iload_n 2), (5, .aload_n 0), (6, .getfield 58), (9, .if_icmp .ge 24), (12, .iload_n 1), (13, .aload_n 0), (14, .getfield 11), (17, .iload_n 2), (18, .aaload), (19, .getfield 42), (22, .getfield 99), (25, .iadd), (26, .istore_n 1), (27, .iinc 2 1), (30, .goto (-26)), (33, .iload_n 1), (34, .ireturn)]
def LcX1_tracksAsGoneThrough : List (Nat × Instr) := [(0, .iconst 0), (1, .istore_n 1), (2, .iload_n 1), (3, .bipush 48), (5, .if_icmp .ge 73), (8, .iconst (-1)), (9, .istore_n 2), (10, .iconst 0), (11, .istore_n 3), (12, .iload_n 3), (13, .aload_n 0), (14, .getfield 17), (17, .if_icmp .gt 40), (20, .aload_n 0), (21, .getfield 11), (24, .iload_n 3), (25, .aaload), (26, .getfield 42), (29, .iload_n 1), (30, .invokevirtual 100), (33, .ifCond .eq 18), (36, .aload_n 0), (37, .getfield 11), (40, .iload_n 3), (41, .aaload), (42, .getfield 42), (45, .getfield 46), (48, .iload_n 1), (49, .iaload), (50, .istore_n 2), (51, .iinc 3 1), (54, .goto (-42)), (57, .iload_n 2), (58, .aload_n 0), (59, .aload_n 0), (60, .getfield 17), (63, .iload_n 1), (64, .invokevirtual 103), (67, .if_icmp .eq 5), (70, .iconst 0), (71, .ireturn), (72, .iinc 1 1), (75, .goto (-73)), (78, .iconst 1), (79, .ireturn)]
def LcX2_init : List (Nat × Instr) := [(0, .aload_n 0), (1, .invokespecial 3), (4, .aload_n 0), (5, .bipush 12), (7, .newarray .int), (9, .putfield 9), (12, .aload_n 0), (13, .bipush 6), (15, .anewarray 15), (18, .putfield 17), (21, .aload_n 0), (22, .new 21), (25, .dup), (26, .invokespecial 23), (29, .putfield 24), (32, .aload_n 0), (33, .new 28), (36, .dup), (37, .invokespecial 30), (40, .putfield 31), (43, .aload_n 0), (44, .iconst 3), (45, .anewarray 35), (48, .putfield 37), (51, .aload_n 0), (52, .iconst 4), (53, .anewarray 41), (56, .putfield 43), (59, .iconst 0), (60, .istore_n 1), (61, .iload_n 1), (62, .bipush 6), (64, .if_icmp .ge 22), (67, .aload_n 0), (68, .getfield 17), (71, .iload_n 1), (72, .new 15), (75, .dup), (76, .invokespecial 47), (79, .aastore), (80, .iinc 1 1), (83, .goto (-22)), (86, .iconst 0), (87, .istore_n 1), (88, .iload_n 1), (89, .iconst 3), (90, .if_icmp .ge 22), (93, .aload_n 0), (94, .getfield 37), (97, .iload_n 1), (98, .new 35), (101, .dup), (102, .invokespecial 48), (105, .aastore), (106, .iinc 1 1), (109, .goto (-21)), (112, .iconst 0), (113, .istore_n 1), (114, .iload_n 1), (115, .iconst 4), (116, .if_icmp .ge 22), (119, .aload_n 0), (120, .getfield 43), (123, .iload_n 1), (124, .new 41), (127, .dup), (128, .invokespecial 49), (131, .aastore), (132, .iinc 1 1), (135, .goto (-21)), (138, .return_)]
def LcX2_placeLamp : List (Nat × Instr) := [(0, .aload_n 0), (1, .getfield 9), (4, .aload_n 0), (5, .getfield 50), (8, .iconst (-1)), (9, .iastore), (10, .aload_n 0), (11, .dup), (12, .getfield 50), (15, .iconst 1), (16, .iadd), (17, .putfield 50), (20, .aload_n 0), (21, .getfield 50), (24, .iconst 1), (25, .isub), (26, .ireturn)]
def LcX2_meetsAnotherLamp : List (Nat × Instr) := [(0, .iconst 0), (1, .istore_n 3), (2, .iload_n 3), (3, .aload_n 0), (4, .getfield 50), (7, .if_icmp .ge 45), (10, .aload_n 0), (11, .getfield 9), (14, .iload_n 3), (15, .iaload), (16, .iload_n 2), (17, .isub), (18, .invokestatic 54), (21, .istore 4), (23, .iload_n 3), (24, .iload_n 1), (25, .if_icmp .eq 21), (28, .aload_n 0), (29, .getfield 9), (32, .iload_n 3), (33, .iaload), (34, .iconst (-1)), (35, .if_icmp .eq 11), (38, .iload 4), (40, .iconst 4), (41, .if_icmp .ge 5), (44, .iconst 1), (45, .ireturn), (46, .iinc 3 1), (49, .goto (-47)), (52, .iconst 0), (53, .ireturn)]
def LcX2_moveLamp : List (Nat × Instr) := [(0, .aload_n 0), (1, .getfield 9), (4, .iload_n 1), (5, .iaload), (6, .istore_n 3), (7, .aload_n 0), (8, .getfield 9), (11, .iload_n 1), (12, .iload_n 2), (13, .iastore), (14, .iload_n 3), (15, .ireturn)]
def LcX2_formGroup : List (Nat × Instr) := [(0, .aload_n 0), (1, .dup), (2, .getfield 60), (5, .iconst 1), (6, .iadd), (7, .putfield 60), (10, .aload_n 0), (11, .getfield 60), (14, .iconst 1), (15, .isub), (16, .ireturn)]
def LcX2_spreadOver : List (Nat × Instr) := [(0, .aload_n 0), (1, .getfield 17), (4, .iload_n 1), (5, .aaload), (6, .getfield 63), (9, .astore 5), (11, .aload_n 0), (12, .getfield 17), (15, .iload_n 1), (16, .aaload), (17, .getfield 65), (20, .istore 6), (22, .iconst 0), (23, .istore 7), (25, .iload 7), (27, .iload 6), (29, .if_icmp .ge 54), (32, .iload 6), (34, .iconst 2), (35, .if_icmp .ge 7), (38, .iconst 0), (39, .goto 15), (42, .iload 7), (44, .iload 4), (46, .iload_n 3), (47, .isub), (48, .imul), (49, .iload 6), (51, .iconst 1), (52, .isub), (53, .idiv), (54, .istore 8), (56, .aload_n 0), (57, .getfield 31), (60, .aload 5), (62, .iload 7), (64, .iaload), (65, .iload_n 2), (66, .invokestatic 68), (69, .iload_n 3), (70, .iload 8), (72, .iadd), (73, .invokevirtual 72), (76, .pop), (77, .iinc 7 1), (80, .goto (-55)), (83, .aload_n 0), (84, .getfield 31), (87, .getfield 75), (90, .ireturn)]
def LcX2_cueAt : List (Nat × Instr) := [(0, .aload_n 0), (1, .getfield 37), (4, .iload_n 1), (5, .aaload), (6, .getfield 76), (9, .iload_n 2), (10, .aaload), (11, .areturn)]
def LcX2_storeCue : List (Nat × Instr) := [(0, .aload_n 0), (1, .getfield 37), (4, .iload_n 1), (5, .aaload), (6, .astore_n 2), (7, .aload_n 2), (8, .getfield 76), (11, .aload_n 2), (12, .getfield 80), (15, .aaload), (16, .getfield 81), (19, .aload_n 0), (20, .getfield 31), (23, .invokevirtual 86), (26, .aload_n 0), (27, .getfield 31), (30, .invokevirtual 90), (33, .pop), (34, .aload_n 2), (35, .dup), (36, .getfield 80), (39, .iconst 1), (40, .iadd), (41, .putfield 80), (44, .aload_n 2), (45, .getfield 80), (48, .iconst 1), (49, .isub), (50, .ireturn)]
def LcX2_advance : List (Nat × Instr) := [(0, .aload_n 0), (1, .getfield 37), (4, .iload_n 1), (5, .aaload), (6, .invokevirtual 94), (9, .istore_n 2), (10, .iload_n 2), (11, .iconst (-1)), (12, .if_icmp .eq 10), (15, .aload_n 0), (16, .iload_n 1), (17, .iload_n 2), (18, .invokevirtual 97), (21, .pop), (22, .iload_n 2), (23, .ireturn)]
def LcX2_begin : List (Nat × Instr) := [(0, .aload_n 0), (1, .getfield 37), (4, .iload_n 1), (5, .aaload), (6, .astore_n 3), (7, .aload_n 0), (8, .dup), (9, .getfield 100), (12, .iconst 1), (13, .iadd), (14, .putfield 100), (17, .iconst 0), (18, .istore 4), (20, .iconst 0), (21, .istore 5), (23, .iload 5), (25, .bipush 48), (27, .if_icmp .ge 95), (30, .aload_n 3), (31, .iload_n 2), (32, .iload 5), (34, .invokevirtual 103), (37, .iconst (-1)), (38, .if_icmp .ne 14), (41, .aload_n 3), (42, .getfield 106), (45, .iload 5), (47, .iconst 0), (48, .iastore), (49, .goto 67), (52, .aload_n 3), (53, .iload_n 2), (54, .iload 5), (56, .invokevirtual 109), (59, .ifCond .eq 57), (62, .aload_n 3), (63, .iload 5), (65, .invokevirtual 113), (68, .ifCond .eq 20), (71, .aload_n 3), (72, .iload 5), (74, .aload_n 0), (75, .getfield 117), (78, .aload_n 0), (79, .getfield 24), (82, .invokevirtual 120), (85, .goto 9), (88, .aload_n 0), (89, .iload 5), (91, .invokevirtual 124), (94, .fstore 6), (96, .aload_n 3), (97, .iload 5), (99, .iload_n 2), (100, .fload 6), (102, .aload_n 0), (103, .getfield 117), (106, .aload_n 0), (107, .getfield 100), (110, .invokevirtual 128), (113, .iinc 4 1), (116, .iinc 5 1), (119, .goto (-96)), (122, .aload_n 3), (123, .iload_n 2), (124, .putfield 132), (127, .aload_n 3), (128, .aload_n 0), (129, .getfield 117), (132, .putfield 135), (135, .iload 4), (137, .ireturn)]
def LcX2_updateList : List (Nat × Instr) := [(0, .aload_n 0), (1, .getfield 37), (4, .iload_n 1), (5, .aaload), (6, .astore_n 2), (7, .iconst 0), (8, .istore_n 3), (9, .iload_n 3), (10, .bipush 48), (12, .if_icmp .ge 26), (15, .aload_n 0), (16, .getfield 31), (19, .iload_n 3), (20, .invokevirtual 138), (23, .ifCond .eq 9), (26, .aload_n 0), (27, .aload_n 2), (28, .iload_n 3), (29, .invokevirtual 141), (32, .iinc 3 1), (35, .goto (-26)), (38, .aload_n 0), (39, .getfield 31), (42, .invokevirtual 90), (45, .ireturn)]
def LcX2_updateSlot : List (Nat × Instr) := [(0, .aload_n 0), (1, .getfield 31), (4, .getfield 145), (7, .iload_n 2), (8, .iaload), (9, .istore_n 3), (10, .aload_n 1), (11, .aload_n 1), (12, .getfield 132), (15, .iload_n 2), (16, .invokevirtual 103), (19, .istore 4), (21, .iload 4), (23, .iconst (-1)), (24, .if_icmp .ne 10), (27, .aload_n 1), (28, .getfield 132), (31, .goto 5), (34, .iload 4), (36, .istore 5), (38, .aload_n 1), (39, .getfield 76), (42, .iload 5), (44, .aaload), (45, .getfield 81), (48, .getfield 145), (51, .iload_n 2), (52, .iaload), (53, .istore 6), (55, .iload 6), (57, .invokestatic 148), (60, .ifCond .eq 28), (63, .iload_n 3), (64, .invokestatic 148), (67, .ifCond .ne 21), (70, .aload_n 0), (71, .getfield 24), (74, .iload 6), (76, .sipush 256), (79, .isub), (80, .iload_n 3), (81, .invokevirtual 151), (84, .pop), (85, .goto 19), (88, .aload_n 1), (89, .getfield 76), (92, .iload 5), (94, .aaload), (95, .getfield 81), (98, .iload_n 2), (99, .iload_n 3), (100, .invokevirtual 72), (103, .pop), (104, .return_)]
def LcX2_goOn : List (Nat × Instr) := [(0, .iconst 0), (1, .istore_n 2), (2, .iload_n 2), (3, .iload_n 1), (4, .if_icmp .ge 61), (7, .aload_n 0), (8, .dup), (9, .getfield 117), (12, .iconst 1), (13, .iadd), (14, .putfield 117), (17, .iconst 0), (18, .istore_n 3), (19, .iload_n 3), (20, .iconst 3), (21, .if_icmp .ge 38), (24, .aload_n 0), (25, .getfield 37), (28, .iload_n 3), (29, .aaload), (30, .aload_n 0), (31, .getfield 117), (34, .invokevirtual 154), (37, .istore 4), (39, .iload 4), (41, .iconst (-1)), (42, .if_icmp .eq 11), (45, .aload_n 0), (46, .iload_n 3), (47, .iload 4), (49, .invokevirtual 97), (52, .pop), (53, .iinc 3 1), (56, .goto (-37)), (59, .iinc 2 1), (62, .goto (-60)), (65, .aload_n 0), (66, .getfield 117), (69, .ireturn)]
def LcX2_takeCode : List (Nat × Instr) := [(0, .iconst 0), (1, .istore_n 2), (2, .iconst 0), (3, .istore_n 3), (4, .iload_n 3), (5, .iconst 3), (6, .if_icmp .ge 52), (9, .aload_n 0), (10, .getfield 37), (13, .iload_n 3), (14, .aaload), (15, .iload_n 1), (16, .invokevirtual 157), (19, .istore 4), (21, .iload 4), (23, .iconst (-1)), (24, .if_icmp .eq 28), (27, .iload 4), (29, .aload_n 0), (30, .getfield 37), (33, .iload_n 3), (34, .aaload), (35, .getfield 132), (38, .if_icmp .eq 14), (41, .aload_n 0), (42, .iload_n 3), (43, .iload 4), (45, .invokevirtual 97), (48, .pop), (49, .iinc 2 1), (52, .iinc 3 1), (55, .goto (-51)), (58, .iload_n 2), (59, .ireturn)]
def LcX2_nextEffect : List (Nat × Instr) := [(0, .aload_n 0), (1, .dup), (2, .getfield 160), (5, .iconst 1), (6, .iadd), (7, .putfield 160), (10, .aload_n 0), (11, .getfield 43), (14, .aload_n 0), (15, .getfield 160), (18, .iconst 1), (19, .isub), (20, .aaload), (21, .areturn)]
def LcX2_runningEffects : List (Nat × Instr) := [(0, .iconst 0), (1, .istore_n 1), (2, .iconst 0), (3, .istore_n 2), (4, .iload_n 2), (5, .aload_n 0), (6, .getfield 160), (9, .if_icmp .ge 29), (12, .iload_n 1), (13, .aload_n 0), (14, .getfield 43), (17, .iload_n 2), (18, .aaload), (19, .invokevirtual 163), (22, .ifCond .eq 7), (25, .iconst 1), (26, .goto 4), (29, .iconst 0), (30, .iadd), (31, .istore_n 1), (32, .iinc 2 1), (35, .goto (-31)), (38, .iload_n 1), (39, .ireturn)]
def LcX2_decider : List (Nat × Instr) := [(0, .aload_n 0), (1, .getfield 31), (4, .iload_n 1), (5, .invokevirtual 138), (8, .ifCond .eq 5), (11, .iconst 3), (12, .ireturn), (13, .iconst (-1)), (14, .istore_n 2), (15, .fconst 0), (16, .fstore_n 3), (17, .iconst 0), (18, .istore 4), (20, .iload 4), (22, .iconst 3), (23, .if_icmp .ge 112), (26, .aload_n 0), (27, .getfield 37), (30, .iload 4), (32, .aaload), (33, .astore 5), (35, .aload 5), (37, .iload_n 1), (38, .invokevirtual 113), (41, .ifCond .ne 6), (44, .goto 85), (47, .iload_n 1), (48, .iconst 4), (49, .irem), (50, .ifCond .ne 20), (53, .aload 5), (55, .iload_n 1), (56, .aload_n 0), (57, .getfield 117), (60, .aload_n 0), (61, .getfield 24), (64, .invokevirtual 167), (67, .goto 11), (70, .aload 5), (72, .getfield 106), (75, .iload_n 1), (76, .iaload), (77, .i2f), (78, .fstore 6), (80, .iload_n 2), (81, .iconst (-1)), (82, .if_icmp .ne 7), (85, .iconst 1), (86, .goto 18), (89, .aload 5), (91, .getfield 170), (94, .aload_n 0), (95, .getfield 37), (98, .iload_n 2), (99, .aaload), (100, .getfield 170), (103, .isub), (104, .istore 7), (106, .iload 7), (108, .ifCond .gt 15), (111, .iload 7), (113, .ifCond .ne 16), (116, .fload 6), (118, .fload_n 3), (119, .fcmp .l), (120, .ifCond .le 9), (123, .iload 4), (125, .istore_n 2), (126, .fload 6), (128, .fstore_n 3), (129, .iinc 4 1), (132, .goto (-112)), (135, .iload_n 2), (136, .ireturn)]
def LcX2_settled : List (Nat × Instr) := [(0, .aload_n 0), (1, .iload_n 1), (2, .invokevirtual 173), (5, .istore_n 2), (6, .iload_n 2), (7, .iconst (-1)), (8, .if_icmp .ne 5), (11, .fconst 0), (12, .freturn), (13, .iload_n 2), (14, .iconst 3), (15, .if_icmp .ne 21), (18, .aload_n 0), (19, .getfield 24), (22, .aload_n 0), (23, .getfield 31), (26, .getfield 145), (29, .iload_n 1), (30, .iaload), (31, .invokevirtual 176), (34, .i2f), (35, .freturn), (36, .aload_n 0), (37, .getfield 37), (40, .iload_n 2), (41, .aaload), (42, .iload_n 1), (43, .aload_n 0), (44, .getfield 117), (47, .aload_n 0), (48, .getfield 24), (51, .invokevirtual 167), (54, .freturn)]
def LcX2_shown : List (Nat × Instr) := [(0, .aload_n 0), (1, .iload_n 1), (2, .invokevirtual 124), (5, .fstore_n 2), (6, .iconst 0), (7, .istore_n 3), (8, .iload_n 3), (9, .aload_n 0), (10, .getfield 160), (13, .if_icmp .ge 78), (16, .aload_n 0), (17, .getfield 43), (20, .iload_n 3), (21, .aaload), (22, .astore 4), (24, .aload 4), (26, .invokevirtual 163), (29, .ifCond .eq 56), (32, .aload 4), (34, .getfield 179), (37, .iload_n 1), (38, .iconst 4), (39, .irem), (40, .if_icmp .ne 45), (43, .aload_n 0), (44, .getfield 17), (47, .aload 4), (49, .getfield 182), (52, .aaload), (53, .iload_n 1), (54, .iconst 4), (55, .idiv), (56, .invokevirtual 185), (59, .istore 5), (61, .iload 5), (63, .iconst (-1)), (64, .if_icmp .ne 7), (67, .fload_n 2), (68, .goto 16), (71, .fload_n 2), (72, .aload 4), (74, .iload 5), (76, .aload_n 0), (77, .getfield 117), (80, .invokevirtual 188), (83, .fadd), (84, .fstore_n 2), (85, .iinc 3 1), (88, .goto (-80)), (91, .fload_n 2), (92, .fconst 0), (93, .fcmp .g), (94, .ifCond .ge 5), (97, .fconst 0), (98, .freturn), (99, .fload_n 2), (100, .ldc 192), (102, .fcmp .l), (103, .ifCond .le 8), (106, .ldc 192), (108, .goto 4), (111, .fload_n 2), (112, .freturn)]
def LcX2_lineValue : List (Nat × Instr) := [(0, .iconst 0), (1, .istore_n 2), (2, .iload_n 2), (3, .aload_n 0), (4, .getfield 50), (7, .if_icmp .ge 48), (10, .iload_n 1), (11, .aload_n 0), (12, .getfield 9), (15, .iload_n 2), (16, .iaload), (17, .isub), (18, .istore_n 3), (19, .aload_n 0), (20, .getfield 9), (23, .iload_n 2), (24, .iaload), (25, .iconst (-1)), (26, .if_icmp .eq 23), (29, .iload_n 3), (30, .ifCond .lt 19), (33, .iload_n 3), (34, .iconst 4), (35, .if_icmp .ge 14), (38, .aload_n 0), (39, .iload_n 2), (40, .iload_n 3), (41, .invokestatic 68), (44, .invokevirtual 193), (47, .f2i), (48, .ireturn), (49, .iinc 2 1), (52, .goto (-50)), (55, .iconst 0), (56, .ireturn)]
def LcX3_init : List (Nat × Instr) := [(0, .aload_n 0), (1, .invokespecial 3), (4, .aload_n 0), (5, .iconst 2), (6, .putfield 9), (9, .aload_n 0), (10, .iconst (-1)), (11, .putfield 15), (14, .return_)]
def LcX3_describe : List (Nat × Instr) := [(0, .aload_n 0), (1, .iload_n 1), (2, .putfield 18), (5, .aload_n 0), (6, .iload_n 2), (7, .putfield 21), (10, .aload_n 0), (11, .iload_n 3), (12, .putfield 24), (15, .aload_n 0), (16, .iload 4), (18, .putfield 28), (21, .aload_n 0), (22, .iload 5), (24, .putfield 9), (27, .aload_n 0), (28, .iload 6), (30, .putfield 31), (33, .return_)]
def LcX3_runs : List (Nat × Instr) := [(0, .aload_n 0), (1, .getfield 15), (4, .iconst (-1)), (5, .if_icmp .eq 7), (8, .iconst 1), (9, .goto 4), (12, .iconst 0), (13, .ireturn)]
def LcX3_wave : List (Nat × Instr) := [(0, .iload_n 2), (1, .aload_n 0), (2, .getfield 15), (5, .isub), (6, .iload_n 1), (7, .aload_n 0), (8, .getfield 31), (11, .imul), (12, .iadd), (13, .aload_n 0), (14, .getfield 9), (17, .irem), (18, .istore_n 3), (19, .aload_n 0), (20, .getfield 28), (23, .i2f), (24, .fstore 4), (26, .iload_n 3), (27, .i2f), (28, .fstore 5), (30, .aload_n 0), (31, .getfield 9), (34, .i2f), (35, .fstore 6), (37, .aload_n 0), (38, .getfield 24), (41, .bipush 119), (43, .if_icmp .ne 12), (46, .fload 4), (48, .fload 5), (50, .fload 6), (52, .fdiv), (53, .fmul), (54, .freturn), (55, .aload_n 0), (56, .getfield 24), (59, .bipush 116), (61, .if_icmp .ne 39), (64, .iconst 2), (65, .iload_n 3), (66, .imul), (67, .aload_n 0), (68, .getfield 9), (71, .if_icmp .le 18), (74, .fload 4), (76, .fconst 2), (77, .fconst 2), (78, .fload 5), (80, .fmul), (81, .fload 6), (83, .fdiv), (84, .fsub), (85, .fmul), (86, .goto 13), (89, .fload 4), (91, .fconst 2), (92, .fload 5), (94, .fmul), (95, .fload 6), (97, .fdiv), (98, .fmul), (99, .freturn), (100, .iconst 2), (101, .iload_n 3), (102, .imul), (103, .aload_n 0), (104, .getfield 9), (107, .if_icmp .ge 8), (110, .fload 4), (112, .goto 4), (115, .fconst 0), (116, .freturn)]
def LcX4_init : List (Nat × Instr) := [(0, .aload_n 0), (1, .invokespecial 3), (4, .aload_n 0), (5, .bipush 48), (7, .newarray .int), (9, .putfield 9), (12, .iconst 0), (13, .istore_n 1), (14, .iload_n 1), (15, .bipush 48), (17, .if_icmp .ge 16), (20, .aload_n 0), (21, .getfield 9), (24, .iload_n 1), (25, .iconst (-1)), (26, .iastore), (27, .iinc 1 1), (30, .goto (-16)), (33, .return_)]
def LcX4_has : List (Nat × Instr) := [(0, .aload_n 0), (1, .getfield 9), (4, .iload_n 1), (5, .iaload), (6, .iconst (-1)), (7, .if_icmp .eq 7), (10, .iconst 1), (11, .goto 4), (14, .iconst 0), (15, .ireturn)]
def LcX4_put : List (Nat × Instr) := [(0, .aload_n 0), (1, .getfield 9), (4, .iload_n 1), (5, .iaload), (6, .iconst (-1)), (7, .if_icmp .ne 13), (10, .aload_n 0), (11, .dup), (12, .getfield 15), (15, .iconst 1), (16, .iadd), (17, .putfield 15), (20, .aload_n 0), (21, .getfield 9), (24, .iload_n 1), (25, .iload_n 2), (26, .iastore), (27, .aload_n 0), (28, .getfield 15), (31, .ireturn)]
def LcX4_drop : List (Nat × Instr) := [(0, .aload_n 0), (1, .getfield 9), (4, .iload_n 1), (5, .iaload), (6, .iconst (-1)), (7, .if_icmp .eq 13), (10, .aload_n 0), (11, .dup), (12, .getfield 15), (15, .iconst 1), (16, .isub), (17, .putfield 15), (20, .aload_n 0), (21, .getfield 9), (24, .iload_n 1), (25, .iconst (-1)), (26, .iastore), (27, .aload_n 0), (28, .getfield 15), (31, .ireturn)]
def LcX4_empty : List (Nat × Instr) := [(0, .aload_n 0), (1, .getfield 15), (4, .istore_n 1), (5, .iconst 0), (6, .istore_n 2), (7, .iload_n 2), (8, .bipush 48), (10, .if_icmp .ge 16), (13, .aload_n 0), (14, .getfield 9), (17, .iload_n 2), (18, .iconst (-1)), (19, .iastore), (20, .iinc 2 1), (23, .goto (-16)), (26, .aload_n 0), (27, .iconst 0), (28, .putfield 15), (31, .iload_n 1), (32, .ireturn)]
def LcX4_copy : List (Nat × Instr) := [(0, .aload_n 1), (1, .getfield 9), (4, .iconst 0), (5, .aload_n 0), (6, .getfield 9), (9, .iconst 0), (10, .bipush 48), (12, .invokestatic 19), (15, .aload_n 0), (16, .aload_n 1), (17, .getfield 15), (20, .putfield 15), (23, .return_)]
def LcX5_init : List (Nat × Instr) := [(0, .aload_n 0), (1, .invokespecial 3), (4, .aload_n 0), (5, .bipush 12), (7, .newarray .int), (9, .putfield 9), (12, .return_)]
def LcX5_placeOf : List (Nat × Instr) := [(0, .iconst 0), (1, .istore_n 2), (2, .iload_n 2), (3, .aload_n 0), (4, .getfield 15), (7, .if_icmp .ge 21), (10, .aload_n 0), (11, .getfield 9), (14, .iload_n 2), (15, .iaload), (16, .iload_n 1), (17, .if_icmp .ne 5), (20, .iload_n 2), (21, .ireturn), (22, .iinc 2 1), (25, .goto (-23)), (28, .iconst (-1)), (29, .ireturn)]
def LcX5_join : List (Nat × Instr) := [(0, .aload_n 0), (1, .getfield 9), (4, .aload_n 0), (5, .getfield 15), (8, .iload_n 1), (9, .iastore), (10, .aload_n 0), (11, .dup), (12, .getfield 15), (15, .iconst 1), (16, .iadd), (17, .putfield 15), (20, .aload_n 0), (21, .getfield 15), (24, .ireturn)]
def LcX6_init : List (Nat × Instr) := [(0, .aload_n 0), (1, .invokespecial 3), (4, .aload_n 0), (5, .bipush 8), (7, .newarray .int), (9, .putfield 9), (12, .aload_n 0), (13, .bipush 8), (15, .newarray .int), (17, .putfield 15), (20, .return_)]
def LcX6_mix : List (Nat × Instr) := [(0, .aload_n 0), (1, .getfield 9), (4, .aload_n 0), (5, .getfield 18), (8, .iload_n 1), (9, .iastore), (10, .aload_n 0), (11, .getfield 15), (14, .aload_n 0), (15, .getfield 18), (18, .iload_n 2), (19, .iastore), (20, .aload_n 0), (21, .dup), (22, .getfield 18), (25, .iconst 1), (26, .iadd), (27, .putfield 18), (30, .aload_n 0), (31, .getfield 18), (34, .iconst 1), (35, .isub), (36, .ireturn)]
def LcX6_change : List (Nat × Instr) := [(0, .aload_n 0), (1, .getfield 15), (4, .iload_n 1), (5, .iaload), (6, .istore_n 3), (7, .aload_n 0), (8, .getfield 15), (11, .iload_n 1), (12, .iload_n 2), (13, .iastore), (14, .iload_n 3), (15, .ireturn)]
def LcX6_numberOf : List (Nat × Instr) := [(0, .iload_n 1), (1, .sipush 256), (4, .if_icmp .ge 7), (7, .iload_n 1), (8, .goto 13), (11, .aload_n 0), (12, .getfield 15), (15, .iload_n 1), (16, .sipush 256), (19, .isub), (20, .iaload), (21, .ireturn)]
def LcX7_init : List (Nat × Instr) := [(0, .aload_n 0), (1, .invokespecial 3), (4, .aload_n 0), (5, .new 9), (8, .dup), (9, .invokespecial 11), (12, .putfield 12), (15, .aload_n 0), (16, .new 9), (19, .dup), (20, .invokespecial 11), (23, .putfield 16), (26, .return_)]
def LcX7_addLamp : List (Nat × Instr) := [(0, .aload_n 0), (1, .getfield 12), (4, .getfield 19), (7, .bipush 12), (9, .if_icmp .lt 13), (12, .new 23), (15, .dup), (16, .ldc 25), (18, .invokespecial 27), (21, .athrow), (22, .aload_n 0), (23, .getfield 16), (26, .invokevirtual 30), (29, .pop), (30, .aload_n 0), (31, .getfield 12), (34, .invokevirtual 30), (37, .ireturn)]
def LcX7_patch : List (Nat × Instr) := [(0, .aload_n 0), (1, .iload_n 1), (2, .invokevirtual 34), (5, .iload_n 2), (6, .iconst (-1)), (7, .bipush 60), (9, .invokestatic 38), (12, .iload_n 2), (13, .iconst (-1)), (14, .if_icmp .eq 25), (17, .aload_n 0), (18, .getfield 12), (21, .iload_n 1), (22, .iload_n 2), (23, .invokevirtual 42), (26, .ifCond .eq 13), (29, .new 23), (32, .dup), (33, .ldc 46), (35, .invokespecial 27), (38, .athrow), (39, .aload_n 0), (40, .getfield 16), (43, .iload_n 1), (44, .iload_n 2), (45, .invokevirtual 48), (48, .pop), (49, .aload_n 0), (50, .getfield 12), (53, .iload_n 1), (54, .iload_n 2), (55, .invokevirtual 48), (58, .ireturn)]
def LcX7_addGroup : List (Nat × Instr) := [(0, .aload_n 0), (1, .getfield 12), (4, .getfield 52), (7, .bipush 6), (9, .if_icmp .lt 13), (12, .new 23), (15, .dup), (16, .ldc 55), (18, .invokespecial 27), (21, .athrow), (22, .aload_n 0), (23, .getfield 16), (26, .invokevirtual 57), (29, .pop), (30, .aload_n 0), (31, .getfield 12), (34, .invokevirtual 57), (37, .ireturn)]
def LcX7_addToGroup : List (Nat × Instr) := [(0, .aload_n 0), (1, .iload_n 1), (2, .invokevirtual 60), (5, .aload_n 0), (6, .iload_n 2), (7, .invokevirtual 34), (10, .aload_n 0), (11, .getfield 12), (14, .getfield 63), (17, .iload_n 1), (18, .aaload), (19, .iload_n 2), (20, .invokevirtual 67), (23, .iconst (-1)), (24, .if_icmp .eq 13), (27, .new 23), (30, .dup), (31, .ldc 73), (33, .invokespecial 27), (36, .athrow), (37, .aload_n 0), (38, .getfield 16), (41, .getfield 63), (44, .iload_n 1), (45, .aaload), (46, .iload_n 2), (47, .invokevirtual 75), (50, .pop), (51, .aload_n 0), (52, .getfield 12), (55, .getfield 63), (58, .iload_n 1), (59, .aaload), (60, .iload_n 2), (61, .invokevirtual 75), (64, .ireturn)]
def LcX7_addPalette : List (Nat × Instr) := [(0, .aload_n 0), (1, .iload_n 1), (2, .invokevirtual 78), (5, .iload_n 2), (6, .iconst 0), (7, .sipush 255), (10, .invokestatic 38), (13, .aload_n 0), (14, .getfield 12), (17, .getfield 81), (20, .getfield 85), (23, .bipush 8), (25, .if_icmp .lt 13), (28, .new 23), (31, .dup), (32, .ldc 90), (34, .invokespecial 27), (37, .athrow), (38, .aload_n 0), (39, .getfield 16), (42, .getfield 81), (45, .iload_n 1), (46, .iload_n 2), (47, .invokevirtual 92), (50, .pop), (51, .aload_n 0), (52, .getfield 12), (55, .getfield 81), (58, .iload_n 1), (59, .iload_n 2), (60, .invokevirtual 92), (63, .ireturn)]
def LcX7_setPalette : List (Nat × Instr) := [(0, .aload_n 0), (1, .iload_n 1), (2, .invokevirtual 95), (5, .iload_n 2), (6, .iconst 0), (7, .sipush 255), (10, .invokestatic 38), (13, .aload_n 0), (14, .getfield 16), (17, .getfield 81), (20, .iload_n 1), (21, .iload_n 2), (22, .invokevirtual 98), (25, .pop), (26, .aload_n 0), (27, .getfield 12), (30, .getfield 81), (33, .iload_n 1), (34, .iload_n 2), (35, .invokevirtual 98), (38, .ireturn)]
def LcX7_set : List (Nat × Instr) := [(0, .aload_n 0), (1, .iload_n 1), (2, .iload_n 2), (3, .invokevirtual 101), (6, .iload_n 3), (7, .iconst 0), (8, .sipush 255), (11, .invokestatic 38), (14, .iload_n 1), (15, .iload_n 2), (16, .invokestatic 105), (19, .istore 4), (21, .aload_n 0), (22, .getfield 16), (25, .getfield 108), (28, .iload 4), (30, .iload_n 3), (31, .invokevirtual 112), (34, .pop), (35, .aload_n 0), (36, .getfield 12), (39, .getfield 108), (42, .iload 4), (44, .iload_n 3), (45, .invokevirtual 112), (48, .ireturn)]
def LcX7_point : List (Nat × Instr) := [(0, .aload_n 0), (1, .iload_n 1), (2, .invokevirtual 34), (5, .aload_n 0), (6, .iload_n 2), (7, .invokevirtual 95), (10, .iload_n 1), (11, .aload_n 0), (12, .getfield 12), (15, .getfield 81), (18, .getfield 117), (21, .iload_n 2), (22, .iaload), (23, .invokestatic 105), (26, .istore_n 3), (27, .aload_n 0), (28, .getfield 16), (31, .getfield 108), (34, .iload_n 3), (35, .sipush 256), (38, .iload_n 2), (39, .iadd), (40, .invokevirtual 112), (43, .pop), (44, .aload_n 0), (45, .getfield 12), (48, .getfield 108), (51, .iload_n 3), (52, .sipush 256), (55, .iload_n 2), (56, .iadd), (57, .invokevirtual 112), (60, .ireturn)]
def LcX7_fan : List (Nat × Instr) := [(0, .aload_n 0), (1, .iload_n 1), (2, .invokevirtual 60), (5, .aload_n 0), (6, .iload_n 2), (7, .invokevirtual 78), (10, .iload_n 3), (11, .iconst 0), (12, .sipush 255), (15, .invokestatic 38), (18, .iload 4), (20, .iconst 0), (21, .sipush 255), (24, .invokestatic 38), (27, .aload_n 0), (28, .getfield 16), (31, .iload_n 1), (32, .iload_n 2), (33, .iload_n 3), (34, .iload 4), (36, .invokevirtual 121), (39, .pop), (40, .aload_n 0), (41, .getfield 12), (44, .iload_n 1), (45, .iload_n 2), (46, .iload_n 3), (47, .iload 4), (49, .invokevirtual 121), (52, .ireturn)]
def LcX7_knockOut : List (Nat × Instr) := [(0, .aload_n 0), (1, .iload_n 1), (2, .iload_n 2), (3, .invokevirtual 101), (6, .iload_n 1), (7, .iload_n 2), (8, .invokestatic 105), (11, .istore_n 3), (12, .aload_n 0), (13, .getfield 12), (16, .getfield 108), (19, .iload_n 3), (20, .invokevirtual 125), (23, .ifCond .ne 13), (26, .new 129), (29, .dup), (30, .ldc 131), (32, .invokespecial 133), (35, .athrow), (36, .aload_n 0), (37, .getfield 16), (40, .getfield 108), (43, .iload_n 3), (44, .invokevirtual 134), (47, .pop), (48, .aload_n 0), (49, .getfield 12), (52, .getfield 108), (55, .iload_n 3), (56, .invokevirtual 134), (59, .ireturn)]
def LcX7_clear : List (Nat × Instr) := [(0, .aload_n 0), (1, .getfield 16), (4, .getfield 108), (7, .invokevirtual 137), (10, .pop), (11, .aload_n 0), (12, .getfield 12), (15, .getfield 108), (18, .invokevirtual 137), (21, .ireturn)]
def LcX7_record : List (Nat × Instr) := [(0, .aload_n 0), (1, .iload_n 1), (2, .invokevirtual 140), (5, .aload_n 0), (6, .getfield 12), (9, .getfield 108), (12, .getfield 143), (15, .ifCond .ne 13), (18, .new 144), (21, .dup), (22, .ldc 146), (24, .invokespecial 148), (27, .athrow), (28, .aload_n 0), (29, .getfield 12), (32, .getfield 149), (35, .iload_n 1), (36, .aaload), (37, .getfield 153), (40, .bipush 12), (42, .if_icmp .lt 13), (45, .new 23), (48, .dup), (49, .ldc 156), (51, .invokespecial 27), (54, .athrow), (55, .aload_n 0), (56, .getfield 16), (59, .iload_n 1), (60, .invokevirtual 158), (63, .pop), (64, .aload_n 0), (65, .getfield 12), (68, .iload_n 1), (69, .invokevirtual 158), (72, .ireturn)]
def LcX7_setTimes : List (Nat × Instr) := [(0, .aload_n 0), (1, .iload_n 1), (2, .iload_n 2), (3, .invokevirtual 161), (6, .iload_n 3), (7, .iconst 0), (8, .bipush 9), (10, .invokestatic 38), (13, .iload 4), (15, .iconst 0), (16, .bipush 20), (18, .invokestatic 38), (21, .aload_n 0), (22, .getfield 16), (25, .iload_n 1), (26, .iload_n 2), (27, .invokevirtual 164), (30, .iload_n 3), (31, .iload 4), (33, .invokevirtual 168), (36, .pop), (37, .aload_n 0), (38, .getfield 12), (41, .iload_n 1), (42, .iload_n 2), (43, .invokevirtual 164), (46, .iload_n 3), (47, .iload 4), (49, .invokevirtual 168), (52, .ireturn)]
def LcX7_setFollow : List (Nat × Instr) := [(0, .aload_n 0), (1, .iload_n 1), (2, .iload_n 2), (3, .invokevirtual 161), (6, .iload_n 3), (7, .iconst (-1)), (8, .if_icmp .eq 10), (11, .iload_n 3), (12, .iconst 1), (13, .bipush 20), (15, .invokestatic 38), (18, .aload_n 0), (19, .getfield 16), (22, .iload_n 1), (23, .iload_n 2), (24, .invokevirtual 164), (27, .iload_n 3), (28, .invokevirtual 173), (31, .pop), (32, .aload_n 0), (33, .getfield 12), (36, .iload_n 1), (37, .iload_n 2), (38, .invokevirtual 164), (41, .iload_n 3), (42, .invokevirtual 173), (45, .ireturn)]
def LcX7_setLink : List (Nat × Instr) := [(0, .aload_n 0), (1, .iload_n 1), (2, .iload_n 2), (3, .invokevirtual 161), (6, .iload_n 3), (7, .iconst (-1)), (8, .bipush 11), (10, .invokestatic 38), (13, .aload_n 0), (14, .getfield 16), (17, .iload_n 1), (18, .iload_n 2), (19, .invokevirtual 164), (22, .iload_n 3), (23, .invokevirtual 176), (26, .pop), (27, .aload_n 0), (28, .getfield 12), (31, .iload_n 1), (32, .iload_n 2), (33, .invokevirtual 164), (36, .iload_n 3), (37, .invokevirtual 176), (40, .ireturn)]
def LcX7_setCode : List (Nat × Instr) := [(0, .aload_n 0), (1, .iload_n 1), (2, .iload_n 2), (3, .invokevirtual 161), (6, .iload_n 3), (7, .iconst (-1)), (8, .sipush 999), (11, .invokestatic 38), (14, .aload_n 0), (15, .getfield 16), (18, .iload_n 1), (19, .iload_n 2), (20, .invokevirtual 164), (23, .iload_n 3), (24, .invokevirtual 179), (27, .pop), (28, .aload_n 0), (29, .getfield 12), (32, .iload_n 1), (33, .iload_n 2), (34, .invokevirtual 164), (37, .iload_n 3), (38, .invokevirtual 179), (41, .ireturn)]
def LcX7_setAssert : List (Nat × Instr) := [(0, .aload_n 0), (1, .iload_n 1), (2, .iload_n 2), (3, .invokevirtual 161), (6, .aload_n 0), (7, .getfield 16), (10, .iload_n 1), (11, .iload_n 2), (12, .invokevirtual 164), (15, .iload_n 3), (16, .invokevirtual 182), (19, .pop), (20, .aload_n 0), (21, .getfield 12), (24, .iload_n 1), (25, .iload_n 2), (26, .invokevirtual 164), (29, .iload_n 3), (30, .invokevirtual 182), (33, .ireturn)]
def LcX7_setMaster : List (Nat × Instr) := [(0, .aload_n 0), (1, .iload_n 1), (2, .invokevirtual 140), (5, .iload_n 2), (6, .iconst 0), (7, .bipush 100), (9, .invokestatic 38), (12, .aload_n 0), (13, .getfield 16), (16, .getfield 149), (19, .iload_n 1), (20, .aaload), (21, .iload_n 2), (22, .invokevirtual 186), (25, .pop), (26, .aload_n 0), (27, .getfield 12), (30, .getfield 149), (33, .iload_n 1), (34, .aaload), (35, .iload_n 2), (36, .invokevirtual 186), (39, .ireturn)]
def LcX7_setPriority : List (Nat × Instr) := [(0, .aload_n 0), (1, .iload_n 1), (2, .invokevirtual 140), (5, .iload_n 2), (6, .iconst 0), (7, .bipush 9), (9, .invokestatic 38), (12, .aload_n 0), (13, .getfield 16), (16, .getfield 149), (19, .iload_n 1), (20, .aaload), (21, .iload_n 2), (22, .invokevirtual 189), (25, .pop), (26, .aload_n 0), (27, .getfield 12), (30, .getfield 149), (33, .iload_n 1), (34, .aaload), (35, .iload_n 2), (36, .invokevirtual 189), (39, .ireturn)]
def LcX7_go : List (Nat × Instr) := [(0, .aload_n 0), (1, .iload_n 1), (2, .invokevirtual 140), (5, .aload_n 0), (6, .getfield 12), (9, .getfield 149), (12, .iload_n 1), (13, .aaload), (14, .invokevirtual 192), (17, .iconst (-1)), (18, .if_icmp .ne 13), (21, .new 23), (24, .dup), (25, .ldc 195), (27, .invokespecial 27), (30, .athrow), (31, .aload_n 0), (32, .getfield 16), (35, .iload_n 1), (36, .invokevirtual 197), (39, .pop), (40, .aload_n 0), (41, .getfield 12), (44, .iload_n 1), (45, .invokevirtual 197), (48, .ireturn)]
def LcX7_goTo : List (Nat × Instr) := [(0, .aload_n 0), (1, .iload_n 1), (2, .iload_n 2), (3, .invokevirtual 161), (6, .aload_n 0), (7, .getfield 16), (10, .iload_n 1), (11, .iload_n 2), (12, .invokevirtual 200), (15, .pop), (16, .aload_n 0), (17, .getfield 12), (20, .iload_n 1), (21, .iload_n 2), (22, .invokevirtual 200), (25, .ireturn)]
def LcX7_release : List (Nat × Instr) := [(0, .aload_n 0), (1, .iload_n 1), (2, .invokevirtual 203), (5, .aload_n 0), (6, .getfield 16), (9, .getfield 149), (12, .iload_n 1), (13, .aaload), (14, .invokevirtual 206), (17, .pop), (18, .aload_n 0), (19, .getfield 12), (22, .getfield 149), (25, .iload_n 1), (26, .aaload), (27, .invokevirtual 206), (30, .ireturn)]
def LcX7_update : List (Nat × Instr) := [(0, .aload_n 0), (1, .iload_n 1), (2, .invokevirtual 203), (5, .aload_n 0), (6, .getfield 16), (9, .iload_n 1), (10, .invokevirtual 209), (13, .pop), (14, .aload_n 0), (15, .getfield 12), (18, .iload_n 1), (19, .invokevirtual 209), (22, .ireturn)]
def LcX7_pass : List (Nat × Instr) := [(0, .iload_n 1), (1, .iconst 1), (2, .bipush 30), (4, .invokestatic 38), (7, .aload_n 0), (8, .getfield 12), (11, .getfield 212), (14, .iload_n 1), (15, .iadd), (16, .sipush 5000), (19, .if_icmp .le 13), (22, .new 23), (25, .dup), (26, .ldc 215), (28, .invokespecial 27), (31, .athrow), (32, .aload_n 0), (33, .getfield 16), (36, .iload_n 1), (37, .invokevirtual 217), (40, .pop), (41, .aload_n 0), (42, .getfield 12), (45, .iload_n 1), (46, .invokevirtual 217), (49, .ireturn)]
def LcX7_code : List (Nat × Instr) := [(0, .iload_n 1), (1, .iconst 0), (2, .sipush 999), (5, .invokestatic 38), (8, .aload_n 0), (9, .getfield 16), (12, .iload_n 1), (13, .invokevirtual 220), (16, .pop), (17, .aload_n 0), (18, .getfield 12), (21, .iload_n 1), (22, .invokevirtual 220), (25, .ireturn)]
def LcX7_addEffect : List (Nat × Instr) := [(0, .aload_n 0), (1, .iload_n 1), (2, .invokevirtual 60), (5, .aload_n 0), (6, .iload_n 2), (7, .invokevirtual 78), (10, .iload_n 3), (11, .bipush 119), (13, .if_icmp .eq 25), (16, .iload_n 3), (17, .bipush 116), (19, .if_icmp .eq 19), (22, .iload_n 3), (23, .bipush 113), (25, .if_icmp .eq 13), (28, .new 223), (31, .dup), (32, .ldc 225), (34, .invokespecial 227), (37, .athrow), (38, .iload 4), (40, .sipush (-255)), (43, .sipush 255), (46, .invokestatic 38), (49, .iload 5), (51, .iconst 2), (52, .bipush 20), (54, .invokestatic 38), (57, .iload 6), (59, .iconst 0), (60, .bipush 19), (62, .invokestatic 38), (65, .aload_n 0), (66, .getfield 12), (69, .getfield 228), (72, .iconst 4), (73, .if_icmp .lt 13), (76, .new 23), (79, .dup), (80, .ldc 231), (82, .invokespecial 27), (85, .athrow), (86, .aload_n 0), (87, .getfield 16), (90, .invokevirtual 233), (93, .iload_n 1), (94, .iload_n 2), (95, .iload_n 3), (96, .iload 4), (98, .iload 5), (100, .iload 6), (102, .invokevirtual 237), (105, .aload_n 0), (106, .getfield 12), (109, .invokevirtual 233), (112, .iload_n 1), (113, .iload_n 2), (114, .iload_n 3), (115, .iload 4), (117, .iload 5), (119, .iload 6), (121, .invokevirtual 237), (124, .aload_n 0), (125, .getfield 12), (128, .getfield 228), (131, .iconst 1), (132, .isub), (133, .ireturn)]
def LcX7_start : List (Nat × Instr) := [(0, .aload_n 0), (1, .iload_n 1), (2, .invokevirtual 243), (5, .aload_n 0), (6, .getfield 12), (9, .getfield 246), (12, .iload_n 1), (13, .aaload), (14, .invokevirtual 250), (17, .ifCond .eq 13), (20, .new 23), (23, .dup), (24, .ldc 254), (26, .invokespecial 27), (29, .athrow), (30, .aload_n 0), (31, .iload_n 1), (32, .aload_n 0), (33, .getfield 12), (36, .getfield 212), (39, .invokevirtual 256), (42, .ireturn)]
def LcX7_stop : List (Nat × Instr) := [(0, .aload_n 0), (1, .iload_n 1), (2, .invokevirtual 243), (5, .aload_n 0), (6, .getfield 12), (9, .getfield 246), (12, .iload_n 1), (13, .aaload), (14, .invokevirtual 250), (17, .ifCond .ne 14), (20, .new 23), (23, .dup), (24, .ldc_w 259), (27, .invokespecial 27), (30, .athrow), (31, .aload_n 0), (32, .iload_n 1), (33, .iconst (-1)), (34, .invokevirtual 256), (37, .ireturn)]
def LcX7_output : List (Nat × Instr) := [(0, .aload_n 0), (1, .iload_n 1), (2, .iload_n 2), (3, .invokevirtual 101), (6, .aload_n 0), (7, .getfield 12), (10, .iload_n 1), (11, .iload_n 2), (12, .invokestatic 105), (15, .invokevirtual 261), (18, .f2i), (19, .ireturn)]
def LcX7_outputBits : List (Nat × Instr) := [(0, .aload_n 0), (1, .iload_n 1), (2, .iload_n 2), (3, .invokevirtual 101), (6, .aload_n 0), (7, .getfield 12), (10, .iload_n 1), (11, .iload_n 2), (12, .invokestatic 105), (15, .invokevirtual 261), (18, .invokestatic 265), (21, .ireturn)]
def LcX7_line : List (Nat × Instr) := [(0, .iload_n 1), (1, .iconst 0), (2, .bipush 63), (4, .invokestatic 38), (7, .aload_n 0), (8, .getfield 12), (11, .iload_n 1), (12, .invokevirtual 269), (15, .ireturn)]
def LcX7_decides : List (Nat × Instr) := [(0, .aload_n 0), (1, .iload_n 1), (2, .iload_n 2), (3, .invokevirtual 101), (6, .aload_n 0), (7, .getfield 12), (10, .iload_n 1), (11, .iload_n 2), (12, .invokestatic 105), (15, .invokevirtual 272), (18, .istore_n 3), (19, .iload_n 3), (20, .iconst (-1)), (21, .if_icmp .ne 14), (24, .new 129), (27, .dup), (28, .ldc_w 275), (31, .invokespecial 133), (34, .athrow), (35, .iload_n 3), (36, .ireturn)]
def LcX7_valueIn : List (Nat × Instr) := [(0, .aload_n 0), (1, .iload_n 1), (2, .invokevirtual 140), (5, .aload_n 0), (6, .iload_n 2), (7, .iload_n 3), (8, .invokevirtual 101), (11, .iload_n 2), (12, .iload_n 3), (13, .invokestatic 105), (16, .istore 4), (18, .aload_n 0), (19, .getfield 12), (22, .getfield 149), (25, .iload_n 1), (26, .aaload), (27, .iload 4), (29, .invokevirtual 277), (32, .ifCond .ne 14), (35, .new 129), (38, .dup), (39, .ldc_w 280), (42, .invokespecial 133), (45, .athrow), (46, .aload_n 0), (47, .getfield 12), (50, .getfield 149), (53, .iload_n 1), (54, .aaload), (55, .iload 4), (57, .aload_n 0), (58, .getfield 12), (61, .getfield 212), (64, .aload_n 0), (65, .getfield 12), (68, .getfield 81), (71, .invokevirtual 282), (74, .f2i), (75, .ireturn)]
def LcX7_tracked : List (Nat × Instr) := [(0, .aload_n 0), (1, .getfield 12), (4, .getfield 81), (7, .aload_n 0), (8, .iload_n 1), (9, .iload_n 2), (10, .iload_n 3), (11, .iload 4), (13, .invokevirtual 286), (16, .invokevirtual 289), (19, .ireturn)]
def LcX7_source : List (Nat × Instr) := [(0, .aload_n 0), (1, .iload_n 1), (2, .iload_n 2), (3, .iload_n 3), (4, .iload 4), (6, .invokevirtual 286), (9, .pop), (10, .aload_n 0), (11, .getfield 12), (14, .getfield 149), (17, .iload_n 1), (18, .aaload), (19, .iload_n 2), (20, .iload_n 3), (21, .iload 4), (23, .invokestatic 105), (26, .invokevirtual 292), (29, .ireturn)]
def LcX7_paletteOf : List (Nat × Instr) := [(0, .aload_n 0), (1, .iload_n 1), (2, .iload_n 2), (3, .iload_n 3), (4, .iload 4), (6, .invokevirtual 286), (9, .istore 5), (11, .iload 5), (13, .invokestatic 295), (16, .ifCond .ne 14), (19, .new 129), (22, .dup), (23, .ldc_w 298), (26, .invokespecial 133), (29, .athrow), (30, .iload 5), (32, .sipush 256), (35, .isub), (36, .ireturn)]
def LcX7_cueOf : List (Nat × Instr) := [(0, .aload_n 0), (1, .iload_n 1), (2, .invokevirtual 140), (5, .aload_n 0), (6, .getfield 12), (9, .getfield 149), (12, .iload_n 1), (13, .aaload), (14, .getfield 300), (17, .istore_n 2), (18, .iload_n 2), (19, .iconst (-1)), (20, .if_icmp .ne 14), (23, .new 129), (26, .dup), (27, .ldc_w 303), (30, .invokespecial 133), (33, .athrow), (34, .iload_n 2), (35, .ireturn)]
def LcX7_cues : List (Nat × Instr) := [(0, .aload_n 0), (1, .iload_n 1), (2, .invokevirtual 140), (5, .aload_n 0), (6, .getfield 12), (9, .getfield 149), (12, .iload_n 1), (13, .aaload), (14, .getfield 153), (17, .ireturn)]
def LcX7_isFading : List (Nat × Instr) := [(0, .aload_n 0), (1, .iload_n 1), (2, .invokevirtual 140), (5, .aload_n 0), (6, .getfield 12), (9, .getfield 149), (12, .iload_n 1), (13, .aaload), (14, .aload_n 0), (15, .getfield 12), (18, .getfield 212), (21, .invokevirtual 305), (24, .ireturn)]
def LcX7_time : List (Nat × Instr) := [(0, .aload_n 0), (1, .getfield 12), (4, .getfield 212), (7, .ireturn)]
def LcX7_sum : List (Nat × Instr) := [(0, .lconst 0), (1, .lstore_n 1), (2, .iconst 0), (3, .istore_n 3), (4, .iload_n 3), (5, .bipush 64), (7, .if_icmp .ge 21), (10, .lload_n 1), (11, .aload_n 0), (12, .getfield 12), (15, .iload_n 3), (16, .invokevirtual 269), (19, .i2l), (20, .ladd), (21, .lstore_n 1), (22, .iinc 3 1), (25, .goto (-21)), (28, .lload_n 1), (29, .lreturn)]
def LcX7_litShare : List (Nat × Instr) := [(0, .aload_n 0), (1, .getfield 12), (4, .getfield 19), (7, .ifCond .ne 14), (10, .new 308), (13, .dup), (14, .ldc_w 310), (17, .invokespecial 312), (20, .athrow), (21, .iconst 0), (22, .istore_n 1), (23, .iconst 0), (24, .istore_n 2), (25, .iload_n 2), (26, .aload_n 0), (27, .getfield 12), (30, .getfield 19), (33, .if_icmp .ge 29), (36, .aload_n 0), (37, .getfield 12), (40, .iload_n 2), (41, .iconst 0), (42, .invokestatic 105), (45, .invokevirtual 261), (48, .fconst 0), (49, .fcmp .l), (50, .ifCond .le 6), (53, .iinc 1 1), (56, .iinc 2 1), (59, .goto (-34)), (62, .iload_n 1), (63, .i2f), (64, .aload_n 0), (65, .getfield 12), (68, .getfield 19), (71, .i2f), (72, .fdiv), (73, .freturn)]
def LcX7_meanStored : List (Nat × Instr) := [(0, .iconst 0), (1, .istore_n 1), (2, .iconst 0), (3, .istore_n 2), (4, .iconst 0), (5, .istore_n 3), (6, .iload_n 3), (7, .iconst 3), (8, .if_icmp .ge 39), (11, .iload_n 1), (12, .aload_n 0), (13, .getfield 12), (16, .getfield 149), (19, .iload_n 3), (20, .aaload), (21, .getfield 153), (24, .iadd), (25, .istore_n 1), (26, .iload_n 2), (27, .aload_n 0), (28, .getfield 12), (31, .getfield 149), (34, .iload_n 3), (35, .aaload), (36, .invokevirtual 313), (39, .iadd), (40, .istore_n 2), (41, .iinc 3 1), (44, .goto (-38)), (47, .iload_n 1), (48, .ifCond .ne 14), (51, .new 308), (54, .dup), (55, .ldc_w 316), (58, .invokespecial 312), (61, .athrow), (62, .iload_n 2), (63, .i2d), (64, .iload_n 1), (65, .i2d), (66, .ddiv), (67, .dreturn)]
def LcX7_isSound : List (Nat × Instr) := [(0, .iconst 0), (1, .istore_n 1), (2, .iload_n 1), (3, .bipush 64), (5, .if_icmp .ge 30), (8, .aload_n 0), (9, .getfield 12), (12, .iload_n 1), (13, .invokevirtual 269), (16, .aload_n 0), (17, .getfield 16), (20, .iload_n 1), (21, .invokevirtual 269), (24, .if_icmp .eq 5), (27, .iconst 0), (28, .ireturn), (29, .iinc 1 1), (32, .goto (-30)), (35, .iconst 0), (36, .istore_n 1), (37, .iload_n 1), (38, .iconst 3), (39, .if_icmp .ge 26), (42, .aload_n 0), (43, .getfield 12), (46, .getfield 149), (49, .iload_n 1), (50, .aaload), (51, .invokevirtual 318), (54, .ifCond .ne 5), (57, .iconst 0), (58, .ireturn), (59, .iinc 1 1), (62, .goto (-25)), (65, .iconst 1), (66, .ireturn)]
def LcX7_runEffect : List (Nat × Instr) := [(0, .aload_n 0), (1, .getfield 16), (4, .getfield 246), (7, .iload_n 1), (8, .aaload), (9, .iload_n 2), (10, .putfield 321), (13, .aload_n 0), (14, .getfield 12), (17, .getfield 246), (20, .iload_n 1), (21, .aaload), (22, .iload_n 2), (23, .putfield 321), (26, .aload_n 0), (27, .getfield 12), (30, .invokevirtual 324), (33, .ireturn)]
def LcX7_needLamp : List (Nat × Instr) := [(0, .iload_n 1), (1, .ifCond .lt 14), (4, .iload_n 1), (5, .aload_n 0), (6, .getfield 12), (9, .getfield 19), (12, .if_icmp .lt 14), (15, .new 327), (18, .dup), (19, .ldc_w 329), (22, .invokespecial 331), (25, .athrow), (26, .return_)]
def LcX7_needAttribute : List (Nat × Instr) := [(0, .iload_n 1), (1, .iconst 0), (2, .iconst 3), (3, .invokestatic 38), (6, .return_)]
def LcX7_needSlot : List (Nat × Instr) := [(0, .aload_n 0), (1, .iload_n 1), (2, .invokevirtual 34), (5, .aload_n 0), (6, .iload_n 2), (7, .invokevirtual 78), (10, .return_)]
def LcX7_needGroup : List (Nat × Instr) := [(0, .iload_n 1), (1, .ifCond .lt 14), (4, .iload_n 1), (5, .aload_n 0), (6, .getfield 12), (9, .getfield 52), (12, .if_icmp .lt 14), (15, .new 129), (18, .dup), (19, .ldc_w 332), (22, .invokespecial 133), (25, .athrow), (26, .return_)]
def LcX7_needPalette : List (Nat × Instr) := [(0, .iload_n 1), (1, .ifCond .lt 17), (4, .iload_n 1), (5, .aload_n 0), (6, .getfield 12), (9, .getfield 81), (12, .getfield 85), (15, .if_icmp .lt 14), (18, .new 129), (21, .dup), (22, .ldc_w 334), (25, .invokespecial 133), (28, .athrow), (29, .return_)]
def LcX7_needEffect : List (Nat × Instr) := [(0, .iload_n 1), (1, .ifCond .lt 14), (4, .iload_n 1), (5, .aload_n 0), (6, .getfield 12), (9, .getfield 228), (12, .if_icmp .lt 14), (15, .new 129), (18, .dup), (19, .ldc_w 336), (22, .invokespecial 133), (25, .athrow), (26, .return_)]
def LcX7_needList : List (Nat × Instr) := [(0, .iload_n 1), (1, .ifCond .lt 8), (4, .iload_n 1), (5, .iconst 3), (6, .if_icmp .lt 14), (9, .new 327), (12, .dup), (13, .ldc_w 338), (16, .invokespecial 331), (19, .athrow), (20, .return_)]
def LcX7_needCue : List (Nat × Instr) := [(0, .aload_n 0), (1, .iload_n 1), (2, .invokevirtual 140), (5, .iload_n 2), (6, .ifCond .lt 19), (9, .iload_n 2), (10, .aload_n 0), (11, .getfield 12), (14, .getfield 149), (17, .iload_n 1), (18, .aaload), (19, .getfield 153), (22, .if_icmp .lt 14), (25, .new 327), (28, .dup), (29, .ldc_w 340), (32, .invokespecial 331), (35, .athrow), (36, .return_)]
def LcX7_needPresentCue : List (Nat × Instr) := [(0, .aload_n 0), (1, .iload_n 1), (2, .invokevirtual 140), (5, .aload_n 0), (6, .getfield 12), (9, .getfield 149), (12, .iload_n 1), (13, .aaload), (14, .getfield 300), (17, .iconst (-1)), (18, .if_icmp .ne 14), (21, .new 23), (24, .dup), (25, .ldc_w 303), (28, .invokespecial 27), (31, .athrow), (32, .return_)]
def LcX7_needEntry : List (Nat × Instr) := [(0, .aload_n 0), (1, .iload_n 1), (2, .iload_n 2), (3, .invokevirtual 161), (6, .aload_n 0), (7, .iload_n 3), (8, .iload 4), (10, .invokevirtual 101), (13, .aload_n 0), (14, .getfield 12), (17, .getfield 149), (20, .iload_n 1), (21, .aaload), (22, .iload_n 2), (23, .iload_n 3), (24, .iload 4), (26, .invokestatic 105), (29, .invokevirtual 342), (32, .istore 5), (34, .iload 5), (36, .iconst (-1)), (37, .if_icmp .ne 14), (40, .new 129), (43, .dup), (44, .ldc_w 345), (47, .invokespecial 133), (50, .athrow), (51, .iload 5), (53, .ireturn)]
def LcX7_needRange : List (Nat × Instr) := [(0, .iload_n 0), (1, .iload_n 1), (2, .if_icmp .lt 8), (5, .iload_n 0), (6, .iload_n 2), (7, .if_icmp .le 14), (10, .new 223), (13, .dup), (14, .ldc_w 347), (17, .invokespecial 227), (20, .athrow), (21, .return_)]
def LcX7_slotOf : List (Nat × Instr) := [(0, .iload_n 0), (1, .iconst 4), (2, .imul), (3, .iload_n 1), (4, .iadd), (5, .ireturn)]
def LcX7_isPalette : List (Nat × Instr) := [(0, .iload_n 0), (1, .sipush 256), (4, .if_icmp .lt 7), (7, .iconst 1), (8, .goto 4), (11, .iconst 0), (12, .ireturn)]
def LcX7_bitsOf : List (Nat × Instr) := [(0, .fload_n 0), (1, .fconst 0), (2, .fcmp .l), (3, .ifCond .gt 5), (6, .iconst 0), (7, .ireturn), (8, .fload_n 0), (9, .f2d), (10, .dstore_n 1), (11, .bipush 127), (13, .istore_n 3), (14, .dload_n 1), (15, .ldc2_w 349), (18, .dcmp .l), (19, .ifCond .lt 22), (22, .iload_n 3), (23, .sipush 254), (26, .if_icmp .ge 15), (29, .dload_n 1), (30, .ldc2_w 349), (33, .ddiv), (34, .dstore_n 1), (35, .iinc 3 1), (38, .goto (-24)), (41, .dload_n 1), (42, .dconst 1), (43, .dcmp .g), (44, .ifCond .ge 20), (47, .iload_n 3), (48, .iconst 1), (49, .if_icmp .le 15), (52, .dload_n 1), (53, .ldc2_w 349), (56, .dmul), (57, .dstore_n 1), (58, .iinc 3 (-1)), (61, .goto (-20)), (64, .dload_n 1), (65, .dconst 1), (66, .dcmp .g), (67, .ifCond .ge 7), (70, .iconst 0), (71, .goto 9), (74, .iload_n 3), (75, .iconst 1), (76, .isub), (77, .bipush 23), (79, .ishl), (80, .istore 4), (82, .iload 4), (84, .dload_n 1), (85, .ldc2_w 351), (88, .dmul), (89, .d2i), (90, .iadd), (91, .ireturn)]
def LcX8_init : List (Nat × Instr) := [(0, .aload_n 0), (1, .invokespecial 1), (4, .aload_n 0), (5, .bipush 12), (7, .newarray .int), (9, .putfield 7), (12, .aload_n 0), (13, .bipush 72), (15, .newarray .int), (17, .putfield 13), (20, .aload_n 0), (21, .bipush 6), (23, .newarray .int), (25, .putfield 16), (28, .aload_n 0), (29, .bipush 8), (31, .newarray .int), (33, .putfield 19), (36, .aload_n 0), (37, .bipush 8), (39, .newarray .int), (41, .putfield 22), (44, .aload_n 0), (45, .bipush 48), (47, .newarray .int), (49, .putfield 25), (52, .aload_n 0), (53, .iconst 3), (54, .newarray .int), (56, .putfield 28), (59, .aload_n 0), (60, .iconst 3), (61, .newarray .int), (63, .putfield 31), (66, .aload_n 0), (67, .iconst 3), (68, .newarray .int), (70, .putfield 34), (73, .aload_n 0), (74, .iconst 3), (75, .newarray .int), (77, .putfield 37), (80, .aload_n 0), (81, .iconst 3), (82, .newarray .int), (84, .putfield 40), (87, .aload_n 0), (88, .sipush 1728), (91, .newarray .int), (93, .putfield 43), (96, .aload_n 0), (97, .bipush 36), (99, .newarray .int), (101, .putfield 46), (104, .aload_n 0), (105, .bipush 36), (107, .newarray .int), (109, .putfield 49), (112, .aload_n 0), (113, .bipush 36), (115, .newarray .int), (117, .putfield 52), (120, .aload_n 0), (121, .bipush 36), (123, .newarray .int), (125, .putfield 55), (128, .aload_n 0), (129, .bipush 36), (131, .newarray .int), (133, .putfield 58), (136, .aload_n 0), (137, .bipush 36), (139, .newarray .boolean), (141, .putfield 61), (144, .aload_n 0), (145, .sipush 144), (148, .newarray .boolean), (150, .putfield 65), (153, .aload_n 0), (154, .bipush 48), (156, .newarray .boolean), (158, .putfield 68), (161, .aload_n 0), (162, .sipush 144), (165, .newarray .int), (167, .putfield 71), (170, .aload_n 0), (171, .sipush 144), (174, .newarray .int), (176, .putfield 74), (179, .aload_n 0), (180, .sipush 144), (183, .newarray .int), (185, .putfield 77), (188, .aload_n 0), (189, .sipush 144), (192, .newarray .float), (194, .putfield 80), (197, .aload_n 0), (198, .bipush 48), (200, .newarray .float), (202, .putfield 84), (205, .aload_n 0), (206, .iconst 4), (207, .newarray .int), (209, .putfield 87), (212, .aload_n 0), (213, .iconst 4), (214, .newarray .int), (216, .putfield 90), (219, .aload_n 0), (220, .iconst 4), (221, .newarray .int), (223, .putfield 93), (226, .aload_n 0), (227, .iconst 4), (228, .newarray .int), (230, .putfield 96), (233, .aload_n 0), (234, .iconst 4), (235, .newarray .int), (237, .putfield 99), (240, .aload_n 0), (241, .iconst 4), (242, .newarray .int), (244, .putfield 102), (247, .aload_n 0), (248, .iconst 4), (249, .newarray .int), (251, .putfield 105), (254, .aload_n 0), (255, .iconst 4), (256, .newarray .boolean), (258, .putfield 108), (261, .iconst 0), (262, .istore_n 1), (263, .iload_n 1), (264, .bipush 48), (266, .if_icmp .ge 16), (269, .aload_n 0), (270, .getfield 25), (273, .iload_n 1), (274, .iconst (-1)), (275, .iastore), (276, .iinc 1 1), (279, .goto (-16)), (282, .iconst 0), (283, .istore_n 1), (284, .iload_n 1), (285, .sipush 1728), (288, .if_icmp .ge 16), (291, .aload_n 0), (292, .getfield 43), (295, .iload_n 1), (296, .iconst (-1)), (297, .iastore), (298, .iinc 1 1), (301, .goto (-17)), (304, .iconst 0), (305, .istore_n 1), (306, .iload_n 1), (307, .bipush 36), (309, .if_icmp .ge 30), (312, .aload_n 0), (313, .getfield 52), (316, .iload_n 1), (317, .iconst (-1)), (318, .iastore), (319, .aload_n 0), (320, .getfield 55), (323, .iload_n 1), (324, .iconst (-1)), (325, .iastore), (326, .aload_n 0), (327, .getfield 58), (330, .iload_n 1), (331, .iconst (-1)), (332, .iastore), (333, .iinc 1 1), (336, .goto (-30)), (339, .iconst 0), (340, .istore_n 1), (341, .iload_n 1), (342, .iconst 3), (343, .if_icmp .ge 31), (346, .aload_n 0), (347, .getfield 31), (350, .iload_n 1), (351, .iconst (-1)), (352, .iastore), (353, .aload_n 0), (354, .getfield 37), (357, .iload_n 1), (358, .bipush 100), (360, .iastore), (361, .aload_n 0), (362, .getfield 40), (365, .iload_n 1), (366, .iconst 5), (367, .iastore), (368, .iinc 1 1), (371, .goto (-30)), (374, .return_)]
def LcX8_thrown : List (Nat × Instr) := [(0, .aload_n 0), (1, .getfield 111), (4, .ireturn)]
def LcX8_fails : List (Nat × Instr) := [(0, .aload_n 0), (1, .iload_n 1), (2, .putfield 111), (5, .iconst 0), (6, .ireturn)]
def LcX8_in : List (Nat × Instr) := [(0, .iload_n 0), (1, .iload_n 1), (2, .if_icmp .lt 12), (5, .iload_n 0), (6, .iload_n 2), (7, .if_icmp .gt 7), (10, .iconst 1), (11, .goto 4), (14, .iconst 0), (15, .ireturn)]
def LcX8_isLamp : List (Nat × Instr) := [(0, .iload_n 1), (1, .iconst 0), (2, .aload_n 0), (3, .getfield 115), (6, .iconst 1), (7, .isub), (8, .invokestatic 118), (11, .ireturn)]
def LcX8_isList : List (Nat × Instr) := [(0, .iload_n 1), (1, .iconst 0), (2, .iconst 2), (3, .invokestatic 118), (6, .ireturn)]
def LcX8_isCue : List (Nat × Instr) := [(0, .aload_n 0), (1, .iload_n 1), (2, .invokevirtual 122), (5, .ifCond .eq 23), (8, .iload_n 2), (9, .iconst 0), (10, .aload_n 0), (11, .getfield 28), (14, .iload_n 1), (15, .iaload), (16, .iconst 1), (17, .isub), (18, .invokestatic 118), (21, .ifCond .eq 7), (24, .iconst 1), (25, .goto 4), (28, .iconst 0), (29, .ireturn)]
def LcX8_valueOf : List (Nat × Instr) := [(0, .iload_n 1), (1, .sipush 1000), (4, .if_icmp .lt 16), (7, .aload_n 0), (8, .getfield 22), (11, .iload_n 1), (12, .sipush 1000), (15, .isub), (16, .iaload), (17, .goto 4), (20, .iload_n 1), (21, .ireturn)]
def LcX8_countProgrammer : List (Nat × Instr) := [(0, .iconst 0), (1, .istore_n 1), (2, .iconst 0), (3, .istore_n 2), (4, .iload_n 2), (5, .bipush 48), (7, .if_icmp .ge 27), (10, .iload_n 1), (11, .aload_n 0), (12, .getfield 25), (15, .iload_n 2), (16, .iaload), (17, .iconst (-1)), (18, .if_icmp .ne 7), (21, .iconst 0), (22, .goto 4), (25, .iconst 1), (26, .iadd), (27, .istore_n 1), (28, .iinc 2 1), (31, .goto (-27)), (34, .iload_n 1), (35, .ireturn)]
def LcX8_empties : List (Nat × Instr) := [(0, .iconst 0), (1, .istore_n 1), (2, .iload_n 1), (3, .bipush 48), (5, .if_icmp .ge 16), (8, .aload_n 0), (9, .getfield 25), (12, .iload_n 1), (13, .iconst (-1)), (14, .iastore), (15, .iinc 1 1), (18, .goto (-16)), (21, .return_)]
def LcX8_at : List (Nat × Instr) := [(0, .bipush 48), (2, .bipush 12), (4, .iload_n 1), (5, .imul), (6, .iload_n 2), (7, .iadd), (8, .imul), (9, .iload_n 3), (10, .iadd), (11, .ireturn)]
def LcX8_sourceOf : List (Nat × Instr) := [(0, .iload_n 2), (1, .istore 4), (3, .iload 4), (5, .ifCond .lt 26), (8, .aload_n 0), (9, .getfield 43), (12, .aload_n 0), (13, .iload_n 1), (14, .iload 4), (16, .iload_n 3), (17, .invokevirtual 126), (20, .iaload), (21, .iconst (-1)), (22, .if_icmp .ne 9), (25, .iinc 4 (-1)), (28, .goto (-25)), (31, .iload 4), (33, .ireturn)]
def LcX8_trackedIn : List (Nat × Instr) := [(0, .aload_n 0), (1, .iload_n 1), (2, .iload_n 2), (3, .iload_n 3), (4, .invokevirtual 130), (7, .istore 4), (9, .iload 4), (11, .iconst (-1)), (12, .if_icmp .ne 7), (15, .iconst (-1)), (16, .goto 16), (19, .aload_n 0), (20, .getfield 43), (23, .aload_n 0), (24, .iload_n 1), (25, .iload 4), (27, .iload_n 3), (28, .invokevirtual 126), (31, .iaload), (32, .ireturn)]
def LcX8_valueOfFade : List (Nat × Instr) := [(0, .bipush 48), (2, .iload_n 1), (3, .imul), (4, .iload_n 2), (5, .iadd), (6, .istore_n 3), (7, .aload_n 0), (8, .aload_n 0), (9, .iload_n 1), (10, .aload_n 0), (11, .getfield 31), (14, .iload_n 1), (15, .iaload), (16, .iload_n 2), (17, .invokevirtual 133), (20, .invokevirtual 136), (23, .istore 4), (25, .aload_n 0), (26, .getfield 140), (29, .aload_n 0), (30, .getfield 71), (33, .iload_n 3), (34, .iaload), (35, .isub), (36, .istore 5), (38, .iload 5), (40, .ifCond .ge 10), (43, .aload_n 0), (44, .getfield 80), (47, .iload_n 3), (48, .faload), (49, .freturn), (50, .iload_n 2), (51, .iconst 4), (52, .irem), (53, .iconst 3), (54, .if_icmp .eq 23), (57, .aload_n 0), (58, .getfield 74), (61, .iload_n 3), (62, .iaload), (63, .ifCond .eq 14), (66, .iload 5), (68, .aload_n 0), (69, .getfield 74), (72, .iload_n 3), (73, .iaload), (74, .if_icmp .lt 7), (77, .iload 4), (79, .i2f), (80, .freturn), (81, .iload 5), (83, .i2f), (84, .aload_n 0), (85, .getfield 74), (88, .iload_n 3), (89, .iaload), (90, .i2f), (91, .fdiv), (92, .fstore 6), (94, .aload_n 0), (95, .getfield 80), (98, .iload_n 3), (99, .faload), (100, .iload 4), (102, .i2f), (103, .aload_n 0), (104, .getfield 80), (107, .iload_n 3), (108, .faload), (109, .fsub), (110, .fload 6), (112, .fmul), (113, .fadd), (114, .freturn)]
def LcX8_decided : List (Nat × Instr) := [(0, .aload_n 0), (1, .iconst 3), (2, .putfield 143), (5, .aload_n 0), (6, .getfield 25), (9, .iload_n 1), (10, .iaload), (11, .iconst (-1)), (12, .if_icmp .eq 15), (15, .aload_n 0), (16, .aload_n 0), (17, .getfield 25), (20, .iload_n 1), (21, .iaload), (22, .invokevirtual 136), (25, .i2f), (26, .freturn), (27, .aload_n 0), (28, .iconst (-1)), (29, .putfield 143), (32, .fconst 0), (33, .fstore_n 2), (34, .iconst 0), (35, .istore_n 3), (36, .iload_n 3), (37, .iconst 3), (38, .if_icmp .ge 198), (41, .aload_n 0), (42, .getfield 65), (45, .bipush 48), (47, .iload_n 3), (48, .imul), (49, .iload_n 1), (50, .iadd), (51, .baload), (52, .ifCond .ne 6), (55, .goto 175), (58, .aload_n 0), (59, .iload_n 3), (60, .iload_n 1), (61, .invokevirtual 146), (64, .fstore 4), (66, .iload_n 1), (67, .iconst 4), (68, .irem), (69, .ifCond .ne 18), (72, .fload 4), (74, .aload_n 0), (75, .getfield 37), (78, .iload_n 3), (79, .iaload), (80, .i2f), (81, .ldc 150), (83, .fdiv), (84, .fmul), (85, .fstore 4), (87, .aload_n 0), (88, .getfield 143), (91, .iconst (-1)), (92, .if_icmp .eq 21), (95, .aload_n 0), (96, .getfield 40), (99, .iload_n 3), (100, .iaload), (101, .aload_n 0), (102, .getfield 40), (105, .aload_n 0), (106, .getfield 143), (109, .iaload), (110, .if_icmp .le 7), (113, .iconst 1), (114, .goto 4), (117, .iconst 0), (118, .istore 5), (120, .aload_n 0), (121, .getfield 143), (124, .iconst (-1)), (125, .if_icmp .eq 25), (128, .aload_n 0), (129, .getfield 40), (132, .iload_n 3), (133, .iaload), (134, .aload_n 0), (135, .getfield 40), (138, .aload_n 0), (139, .getfield 143), (142, .iaload), (143, .if_icmp .ne 7), (146, .iconst 1), (147, .goto 4), (150, .iconst 0), (151, .istore 6), (153, .iload 6), (155, .ifCond .eq 51), (158, .iload_n 1), (159, .iconst 4), (160, .irem), (161, .ifCond .ne 13), (164, .fload 4), (166, .fload_n 2), (167, .fcmp .l), (168, .ifCond .le 38), (171, .goto 31), (174, .aload_n 0), (175, .getfield 77), (178, .bipush 48), (180, .iload_n 3), (181, .imul), (182, .iload_n 1), (183, .iadd), (184, .iaload), (185, .aload_n 0), (186, .getfield 77), (189, .bipush 48), (191, .aload_n 0), (192, .getfield 143), (195, .imul), (196, .iload_n 1), (197, .iadd), (198, .iaload), (199, .if_icmp .le 7), (202, .iconst 1), (203, .goto 4), (206, .iconst 0), (207, .istore 7), (209, .iload 5), (211, .ifCond .ne 11), (214, .iload 7), (216, .ifCond .ne 6), (219, .goto 11), (222, .aload_n 0), (223, .iload_n 3), (224, .putfield 143), (227, .fload 4), (229, .fstore_n 2), (230, .iinc 3 1), (233, .goto (-197)), (236, .fload_n 2), (237, .freturn)]
def LcX8_memberAt : List (Nat × Instr) := [(0, .iconst 0), (1, .istore_n 3), (2, .iload_n 3), (3, .aload_n 0), (4, .getfield 16), (7, .iload_n 1), (8, .iaload), (9, .if_icmp .ge 26), (12, .aload_n 0), (13, .getfield 13), (16, .bipush 12), (18, .iload_n 1), (19, .imul), (20, .iload_n 3), (21, .iadd), (22, .iaload), (23, .iload_n 2), (24, .if_icmp .ne 5), (27, .iload_n 3), (28, .ireturn), (29, .iinc 3 1), (32, .goto (-30)), (35, .iconst (-1)), (36, .ireturn)]
def LcX8_effect : List (Nat × Instr) := [(0, .aload_n 0), (1, .getfield 99), (4, .iload_n 1), (5, .iaload), (6, .istore_n 3), (7, .aload_n 0), (8, .getfield 140), (11, .aload_n 0), (12, .getfield 105), (15, .iload_n 1), (16, .iaload), (17, .isub), (18, .iload_n 2), (19, .aload_n 0), (20, .getfield 102), (23, .iload_n 1), (24, .iaload), (25, .imul), (26, .iadd), (27, .iload_n 3), (28, .irem), (29, .istore 4), (31, .aload_n 0), (32, .getfield 96), (35, .iload_n 1), (36, .iaload), (37, .i2f), (38, .fstore 5), (40, .aload_n 0), (41, .getfield 93), (44, .iload_n 1), (45, .iaload), (46, .bipush 119), (48, .if_icmp .ne 13), (51, .fload 5), (53, .iload 4), (55, .i2f), (56, .iload_n 3), (57, .i2f), (58, .fdiv), (59, .fmul), (60, .freturn), (61, .aload_n 0), (62, .getfield 93), (65, .iload_n 1), (66, .iaload), (67, .bipush 113), (69, .if_icmp .ne 18), (72, .iconst 2), (73, .iload 4), (75, .imul), (76, .iload_n 3), (77, .if_icmp .ge 8), (80, .fload 5), (82, .goto 4), (85, .fconst 0), (86, .freturn), (87, .iconst 2), (88, .iload 4), (90, .imul), (91, .iload_n 3), (92, .if_icmp .gt 17), (95, .fload 5), (97, .fconst 2), (98, .iload 4), (100, .i2f), (101, .fmul), (102, .iload_n 3), (103, .i2f), (104, .fdiv), (105, .fmul), (106, .goto 16), (109, .fload 5), (111, .fconst 2), (112, .fconst 2), (113, .iload 4), (115, .i2f), (116, .fmul), (117, .iload_n 3), (118, .i2f), (119, .fdiv), (120, .fsub), (121, .fmul), (122, .freturn)]
def LcX8_put : List (Nat × Instr) := [(0, .aload_n 0), (1, .iload_n 1), (2, .invokevirtual 151), (5, .fstore_n 2), (6, .iconst 0), (7, .istore_n 3), (8, .iload_n 3), (9, .aload_n 0), (10, .getfield 155), (13, .if_icmp .ge 61), (16, .aload_n 0), (17, .aload_n 0), (18, .getfield 87), (21, .iload_n 3), (22, .iaload), (23, .iload_n 1), (24, .iconst 4), (25, .idiv), (26, .invokevirtual 158), (29, .istore 4), (31, .aload_n 0), (32, .getfield 108), (35, .iload_n 3), (36, .baload), (37, .ifCond .eq 31), (40, .aload_n 0), (41, .getfield 90), (44, .iload_n 3), (45, .iaload), (46, .iload_n 1), (47, .iconst 4), (48, .irem), (49, .if_icmp .ne 19), (52, .iload 4), (54, .iconst (-1)), (55, .if_icmp .eq 13), (58, .fload_n 2), (59, .aload_n 0), (60, .iload_n 3), (61, .iload 4), (63, .invokevirtual 162), (66, .fadd), (67, .fstore_n 2), (68, .iinc 3 1), (71, .goto (-63)), (74, .fload_n 2), (75, .fconst 0), (76, .fcmp .g), (77, .ifCond .ge 7), (80, .fconst 0), (81, .goto 16), (84, .fload_n 2), (85, .ldc 165), (87, .fcmp .l), (88, .ifCond .le 8), (91, .ldc 165), (93, .goto 4), (96, .fload_n 2), (97, .freturn)]
def LcX8_begins : List (Nat × Instr) := [(0, .aload_n 0), (1, .getfield 31), (4, .iload_n 1), (5, .iaload), (6, .istore_n 3), (7, .iconst 0), (8, .istore 4), (10, .iconst 0), (11, .istore 5), (13, .iload 5), (15, .bipush 48), (17, .if_icmp .ge 139), (20, .bipush 48), (22, .iload_n 1), (23, .imul), (24, .iload 5), (26, .iadd), (27, .istore 6), (29, .aload_n 0), (30, .iload_n 1), (31, .iload_n 2), (32, .iload 5), (34, .invokevirtual 130), (37, .istore 7), (39, .iload_n 3), (40, .iconst (-1)), (41, .if_icmp .ne 7), (44, .iconst (-1)), (45, .goto 11), (48, .aload_n 0), (49, .iload_n 1), (50, .iload_n 3), (51, .iload 5), (53, .invokevirtual 130), (56, .istore 8), (58, .aload_n 0), (59, .getfield 68), (62, .iload 5), (64, .iload 7), (66, .iconst (-1)), (67, .if_icmp .eq 34), (70, .iload 7), (72, .iload_n 2), (73, .if_icmp .eq 24), (76, .aload_n 0), (77, .getfield 61), (80, .bipush 12), (82, .iload_n 1), (83, .imul), (84, .iload_n 2), (85, .iadd), (86, .baload), (87, .ifCond .ne 10), (90, .iload 8), (92, .iload 7), (94, .if_icmp .eq 7), (97, .iconst 1), (98, .goto 4), (101, .iconst 0), (102, .bastore), (103, .aload_n 0), (104, .getfield 84), (107, .iload 5), (109, .aload_n 0), (110, .getfield 68), (113, .iload 5), (115, .baload), (116, .ifCond .ne 7), (119, .fconst 0), (120, .goto 29), (123, .aload_n 0), (124, .getfield 65), (127, .iload 6), (129, .baload), (130, .ifCond .eq 13), (133, .aload_n 0), (134, .iload_n 1), (135, .iload 5), (137, .invokevirtual 146), (140, .goto 9), (143, .aload_n 0), (144, .iload 5), (146, .invokevirtual 151), (149, .fastore), (150, .iinc 5 1), (153, .goto (-140)), (156, .iconst 0), (157, .istore 5), (159, .iload 5), (161, .bipush 48), (163, .if_icmp .ge 144), (166, .bipush 48), (168, .iload_n 1), (169, .imul), (170, .iload 5), (172, .iadd), (173, .istore 6), (175, .aload_n 0), (176, .getfield 65), (179, .iload 6), (181, .aload_n 0), (182, .getfield 68), (185, .iload 5), (187, .baload), (188, .ifCond .ne 25), (191, .aload_n 0), (192, .getfield 65), (195, .iload 6), (197, .baload), (198, .ifCond .eq 19), (201, .aload_n 0), (202, .iload_n 1), (203, .iload_n 2), (204, .iload 5), (206, .invokevirtual 130), (209, .iconst (-1)), (210, .if_icmp .eq 7), (213, .iconst 1), (214, .goto 4), (217, .iconst 0), (218, .bastore), (219, .aload_n 0), (220, .getfield 68), (223, .iload 5), (225, .baload), (226, .ifCond .ne 6), (229, .goto 72), (232, .iinc 4 1), (235, .aload_n 0), (236, .getfield 71), (239, .iload 6), (241, .aload_n 0), (242, .getfield 140), (245, .aload_n 0), (246, .getfield 46), (249, .bipush 12), (251, .iload_n 1), (252, .imul), (253, .iload_n 2), (254, .iadd), (255, .iaload), (256, .iadd), (257, .iastore), (258, .aload_n 0), (259, .getfield 74), (262, .iload 6), (264, .aload_n 0), (265, .getfield 49), (268, .bipush 12), (270, .iload_n 1), (271, .imul), (272, .iload_n 2), (273, .iadd), (274, .iaload), (275, .iastore), (276, .aload_n 0), (277, .getfield 80), (280, .iload 6), (282, .aload_n 0), (283, .getfield 84), (286, .iload 5), (288, .faload), (289, .fastore), (290, .aload_n 0), (291, .getfield 77), (294, .iload 6), (296, .aload_n 0), (297, .getfield 166), (300, .iastore), (301, .iinc 5 1), (304, .goto (-145)), (307, .aload_n 0), (308, .dup), (309, .getfield 166), (312, .iconst 1), (313, .iadd), (314, .putfield 166), (317, .aload_n 0), (318, .getfield 31), (321, .iload_n 1), (322, .iload_n 2), (323, .iastore), (324, .aload_n 0), (325, .getfield 34), (328, .iload_n 1), (329, .aload_n 0), (330, .getfield 140), (333, .iastore), (334, .iload 4), (336, .ireturn)]
def LcX8_nextOf : List (Nat × Instr) := [(0, .aload_n 0), (1, .getfield 31), (4, .iload_n 1), (5, .iaload), (6, .istore_n 2), (7, .iload_n 2), (8, .iconst (-1)), (9, .if_icmp .ne 7), (12, .iconst 0), (13, .goto 35), (16, .aload_n 0), (17, .getfield 55), (20, .bipush 12), (22, .iload_n 1), (23, .imul), (24, .iload_n 2), (25, .iadd), (26, .iaload), (27, .iconst (-1)), (28, .if_icmp .eq 17), (31, .aload_n 0), (32, .getfield 55), (35, .bipush 12), (37, .iload_n 1), (38, .imul), (39, .iload_n 2), (40, .iadd), (41, .iaload), (42, .goto 6), (45, .iload_n 2), (46, .iconst 1), (47, .iadd), (48, .istore_n 3), (49, .iload_n 3), (50, .aload_n 0), (51, .getfield 28), (54, .iload_n 1), (55, .iaload), (56, .if_icmp .ge 7), (59, .iload_n 3), (60, .goto 4), (63, .iconst (-1)), (64, .ireturn)]
def LcX8_addLamp : List (Nat × Instr) := [(0, .aload_n 0), (1, .getfield 115), (4, .bipush 12), (6, .if_icmp .ne 9), (9, .aload_n 0), (10, .iconst 1), (11, .invokevirtual 169), (14, .ireturn), (15, .aload_n 0), (16, .iconst 0), (17, .putfield 111), (20, .aload_n 0), (21, .getfield 7), (24, .aload_n 0), (25, .getfield 115), (28, .iconst (-1)), (29, .iastore), (30, .aload_n 0), (31, .dup), (32, .getfield 115), (35, .iconst 1), (36, .iadd), (37, .putfield 115), (40, .aload_n 0), (41, .getfield 115), (44, .iconst 1), (45, .isub), (46, .ireturn)]
def LcX8_patch : List (Nat × Instr) := [(0, .aload_n 0), (1, .iload_n 1), (2, .invokevirtual 172), (5, .ifCond .ne 9), (8, .aload_n 0), (9, .iconst 1), (10, .invokevirtual 169), (13, .ireturn), (14, .iload_n 2), (15, .iconst (-1)), (16, .bipush 60), (18, .invokestatic 118), (21, .ifCond .ne 9), (24, .aload_n 0), (25, .iconst 2), (26, .invokevirtual 169), (29, .ireturn), (30, .iconst 0), (31, .istore_n 3), (32, .iload_n 3), (33, .aload_n 0), (34, .getfield 115), (37, .if_icmp .ge 52), (40, .iload_n 2), (41, .iconst (-1)), (42, .if_icmp .eq 47), (45, .iload_n 3), (46, .iload_n 1), (47, .if_icmp .eq 36), (50, .aload_n 0), (51, .getfield 7), (54, .iload_n 3), (55, .iaload), (56, .iconst (-1)), (57, .if_icmp .eq 26), (60, .aload_n 0), (61, .getfield 7), (64, .iload_n 3), (65, .iaload), (66, .iload_n 2), (67, .isub), (68, .bipush (-3)), (70, .iconst 3), (71, .invokestatic 118), (74, .ifCond .eq 9), (77, .aload_n 0), (78, .iconst 3), (79, .invokevirtual 169), (82, .ireturn), (83, .iinc 3 1), (86, .goto (-54)), (89, .aload_n 0), (90, .iconst 0), (91, .putfield 111), (94, .aload_n 0), (95, .getfield 7), (98, .iload_n 1), (99, .iaload), (100, .istore_n 3), (101, .aload_n 0), (102, .getfield 7), (105, .iload_n 1), (106, .iload_n 2), (107, .iastore), (108, .iload_n 3), (109, .ireturn)]
def LcX8_addGroup : List (Nat × Instr) := [(0, .aload_n 0), (1, .getfield 175), (4, .bipush 6), (6, .if_icmp .ne 9), (9, .aload_n 0), (10, .iconst 1), (11, .invokevirtual 169), (14, .ireturn), (15, .aload_n 0), (16, .iconst 0), (17, .putfield 111), (20, .aload_n 0), (21, .dup), (22, .getfield 175), (25, .iconst 1), (26, .iadd), (27, .putfield 175), (30, .aload_n 0), (31, .getfield 175), (34, .iconst 1), (35, .isub), (36, .ireturn)]
def LcX8_addToGroup : List (Nat × Instr) := [(0, .iload_n 1), (1, .iconst 0), (2, .aload_n 0), (3, .getfield 175), (6, .iconst 1), (7, .isub), (8, .invokestatic 118), (11, .ifCond .ne 9), (14, .aload_n 0), (15, .iconst 1), (16, .invokevirtual 169), (19, .ireturn), (20, .aload_n 0), (21, .iload_n 2), (22, .invokevirtual 172), (25, .ifCond .ne 9), (28, .aload_n 0), (29, .iconst 2), (30, .invokevirtual 169), (33, .ireturn), (34, .aload_n 0), (35, .iload_n 1), (36, .iload_n 2), (37, .invokevirtual 158), (40, .iconst (-1)), (41, .if_icmp .eq 9), (44, .aload_n 0), (45, .iconst 3), (46, .invokevirtual 169), (49, .ireturn), (50, .aload_n 0), (51, .iconst 0), (52, .putfield 111), (55, .aload_n 0), (56, .getfield 13), (59, .bipush 12), (61, .iload_n 1), (62, .imul), (63, .aload_n 0), (64, .getfield 16), (67, .iload_n 1), (68, .iaload), (69, .iadd), (70, .iload_n 2), (71, .iastore), (72, .aload_n 0), (73, .getfield 16), (76, .iload_n 1), (77, .dup2), (78, .iaload), (79, .iconst 1), (80, .iadd), (81, .iastore), (82, .aload_n 0), (83, .getfield 16), (86, .iload_n 1), (87, .iaload), (88, .ireturn)]
def LcX8_isKind : List (Nat × Instr) := [(0, .iload_n 0), (1, .iconst 0), (2, .iconst 3), (3, .invokestatic 118), (6, .ireturn)]
def LcX8_isByte : List (Nat × Instr) := [(0, .iload_n 0), (1, .iconst 0), (2, .sipush 255), (5, .invokestatic 118), (8, .ireturn)]
def LcX8_addPalette : List (Nat × Instr) := [(0, .iload_n 1), (1, .invokestatic 178), (4, .ifCond .eq 10), (7, .iload_n 2), (8, .invokestatic 181), (11, .ifCond .ne 9), (14, .aload_n 0), (15, .iconst 1), (16, .invokevirtual 169), (19, .ireturn), (20, .aload_n 0), (21, .getfield 184), (24, .bipush 8), (26, .if_icmp .ne 9), (29, .aload_n 0), (30, .iconst 2), (31, .invokevirtual 169), (34, .ireturn), (35, .aload_n 0), (36, .iconst 0), (37, .putfield 111), (40, .aload_n 0), (41, .getfield 19), (44, .aload_n 0), (45, .getfield 184), (48, .iload_n 1), (49, .iastore), (50, .aload_n 0), (51, .getfield 22), (54, .aload_n 0), (55, .getfield 184), (58, .iload_n 2), (59, .iastore), (60, .aload_n 0), (61, .dup), (62, .getfield 184), (65, .iconst 1), (66, .iadd), (67, .putfield 184), (70, .aload_n 0), (71, .getfield 184), (74, .iconst 1), (75, .isub), (76, .ireturn)]
def LcX8_setPalette : List (Nat × Instr) := [(0, .iload_n 1), (1, .iconst 0), (2, .aload_n 0), (3, .getfield 184), (6, .iconst 1), (7, .isub), (8, .invokestatic 118), (11, .ifCond .ne 9), (14, .aload_n 0), (15, .iconst 1), (16, .invokevirtual 169), (19, .ireturn), (20, .iload_n 2), (21, .invokestatic 181), (24, .ifCond .ne 9), (27, .aload_n 0), (28, .iconst 2), (29, .invokevirtual 169), (32, .ireturn), (33, .aload_n 0), (34, .iconst 0), (35, .putfield 111), (38, .aload_n 0), (39, .getfield 22), (42, .iload_n 1), (43, .iaload), (44, .istore_n 3), (45, .aload_n 0), (46, .getfield 22), (49, .iload_n 1), (50, .iload_n 2), (51, .iastore), (52, .iload_n 3), (53, .ireturn)]
def LcX8_set : List (Nat × Instr) := [(0, .aload_n 0), (1, .iload_n 1), (2, .invokevirtual 172), (5, .ifCond .ne 9), (8, .aload_n 0), (9, .iconst 1), (10, .invokevirtual 169), (13, .ireturn), (14, .iload_n 2), (15, .invokestatic 178), (18, .ifCond .eq 10), (21, .iload_n 3), (22, .invokestatic 181), (25, .ifCond .ne 9), (28, .aload_n 0), (29, .iconst 2), (30, .invokevirtual 169), (33, .ireturn), (34, .aload_n 0), (35, .iconst 0), (36, .putfield 111), (39, .aload_n 0), (40, .getfield 25), (43, .iconst 4), (44, .iload_n 1), (45, .imul), (46, .iload_n 2), (47, .iadd), (48, .iload_n 3), (49, .iastore), (50, .aload_n 0), (51, .invokevirtual 187), (54, .ireturn)]
def LcX8_point : List (Nat × Instr) := [(0, .aload_n 0), (1, .iload_n 1), (2, .invokevirtual 172), (5, .ifCond .ne 9), (8, .aload_n 0), (9, .iconst 1), (10, .invokevirtual 169), (13, .ireturn), (14, .iload_n 2), (15, .iconst 0), (16, .aload_n 0), (17, .getfield 184), (20, .iconst 1), (21, .isub), (22, .invokestatic 118), (25, .ifCond .ne 9), (28, .aload_n 0), (29, .iconst 2), (30, .invokevirtual 169), (33, .ireturn), (34, .aload_n 0), (35, .iconst 0), (36, .putfield 111), (39, .aload_n 0), (40, .getfield 25), (43, .iconst 4), (44, .iload_n 1), (45, .imul), (46, .aload_n 0), (47, .getfield 19), (50, .iload_n 2), (51, .iaload), (52, .iadd), (53, .sipush 1000), (56, .iload_n 2), (57, .iadd), (58, .iastore), (59, .aload_n 0), (60, .invokevirtual 187), (63, .ireturn)]
def LcX8_fan : List (Nat × Instr) := [(0, .iload_n 1), (1, .iconst 0), (2, .aload_n 0), (3, .getfield 175), (6, .iconst 1), (7, .isub), (8, .invokestatic 118), (11, .ifCond .ne 9), (14, .aload_n 0), (15, .iconst 1), (16, .invokevirtual 169), (19, .ireturn), (20, .iload_n 2), (21, .invokestatic 178), (24, .ifCond .eq 18), (27, .iload_n 3), (28, .invokestatic 181), (31, .ifCond .eq 11), (34, .iload 4), (36, .invokestatic 181), (39, .ifCond .ne 9), (42, .aload_n 0), (43, .iconst 2), (44, .invokevirtual 169), (47, .ireturn), (48, .aload_n 0), (49, .iconst 0), (50, .putfield 111), (53, .aload_n 0), (54, .getfield 16), (57, .iload_n 1), (58, .iaload), (59, .istore 5), (61, .iconst 0), (62, .istore 6), (64, .iload 6), (66, .iload 5), (68, .if_icmp .ge 54), (71, .aload_n 0), (72, .getfield 25), (75, .iconst 4), (76, .aload_n 0), (77, .getfield 13), (80, .bipush 12), (82, .iload_n 1), (83, .imul), (84, .iload 6), (86, .iadd), (87, .iaload), (88, .imul), (89, .iload_n 2), (90, .iadd), (91, .iload 5), (93, .iconst 1), (94, .if_icmp .ne 7), (97, .iload_n 3), (98, .goto 17), (101, .iload_n 3), (102, .iload 6), (104, .iload 4), (106, .iload_n 3), (107, .isub), (108, .imul), (109, .iload 5), (111, .iconst 1), (112, .isub), (113, .idiv), (114, .iadd), (115, .iastore), (116, .iinc 6 1), (119, .goto (-55)), (122, .aload_n 0), (123, .invokevirtual 187), (126, .ireturn)]
def LcX8_knockOut : List (Nat × Instr) := [(0, .aload_n 0), (1, .iload_n 1), (2, .invokevirtual 172), (5, .ifCond .ne 9), (8, .aload_n 0), (9, .iconst 1), (10, .invokevirtual 169), (13, .ireturn), (14, .iload_n 2), (15, .invokestatic 178), (18, .ifCond .ne 9), (21, .aload_n 0), (22, .iconst 2), (23, .invokevirtual 169), (26, .ireturn), (27, .aload_n 0), (28, .getfield 25), (31, .iconst 4), (32, .iload_n 1), (33, .imul), (34, .iload_n 2), (35, .iadd), (36, .iaload), (37, .iconst (-1)), (38, .if_icmp .ne 9), (41, .aload_n 0), (42, .iconst 3), (43, .invokevirtual 169), (46, .ireturn), (47, .aload_n 0), (48, .iconst 0), (49, .putfield 111), (52, .aload_n 0), (53, .getfield 25), (56, .iconst 4), (57, .iload_n 1), (58, .imul), (59, .iload_n 2), (60, .iadd), (61, .iconst (-1)), (62, .iastore), (63, .aload_n 0), (64, .invokevirtual 187), (67, .ireturn)]
def LcX8_clear : List (Nat × Instr) := [(0, .aload_n 0), (1, .iconst 0), (2, .putfield 111), (5, .aload_n 0), (6, .invokevirtual 187), (9, .istore_n 1), (10, .aload_n 0), (11, .invokevirtual 191), (14, .iload_n 1), (15, .ireturn)]
def LcX8_record : List (Nat × Instr) := [(0, .aload_n 0), (1, .iload_n 1), (2, .invokevirtual 122), (5, .ifCond .ne 9), (8, .aload_n 0), (9, .iconst 1), (10, .invokevirtual 169), (13, .ireturn), (14, .aload_n 0), (15, .invokevirtual 187), (18, .ifCond .ne 9), (21, .aload_n 0), (22, .iconst 2), (23, .invokevirtual 169), (26, .ireturn), (27, .aload_n 0), (28, .getfield 28), (31, .iload_n 1), (32, .iaload), (33, .bipush 12), (35, .if_icmp .ne 9), (38, .aload_n 0), (39, .iconst 3), (40, .invokevirtual 169), (43, .ireturn), (44, .aload_n 0), (45, .iconst 0), (46, .putfield 111), (49, .aload_n 0), (50, .getfield 28), (53, .iload_n 1), (54, .iaload), (55, .istore_n 2), (56, .aload_n 0), (57, .getfield 28), (60, .iload_n 1), (61, .dup2), (62, .iaload), (63, .iconst 1), (64, .iadd), (65, .iastore), (66, .iconst 0), (67, .istore_n 3), (68, .iload_n 3), (69, .bipush 48), (71, .if_icmp .ge 27), (74, .aload_n 0), (75, .getfield 43), (78, .aload_n 0), (79, .iload_n 1), (80, .iload_n 2), (81, .iload_n 3), (82, .invokevirtual 126), (85, .aload_n 0), (86, .getfield 25), (89, .iload_n 3), (90, .iaload), (91, .iastore), (92, .iinc 3 1), (95, .goto (-27)), (98, .aload_n 0), (99, .invokevirtual 191), (102, .iload_n 2), (103, .ireturn)]
def LcX8_setTimes : List (Nat × Instr) := [(0, .aload_n 0), (1, .iload_n 1), (2, .iload_n 2), (3, .invokevirtual 194), (6, .ifCond .ne 9), (9, .aload_n 0), (10, .iconst 1), (11, .invokevirtual 169), (14, .ireturn), (15, .iload_n 3), (16, .iconst 0), (17, .bipush 9), (19, .invokestatic 118), (22, .ifCond .eq 14), (25, .iload 4), (27, .iconst 0), (28, .bipush 20), (30, .invokestatic 118), (33, .ifCond .ne 9), (36, .aload_n 0), (37, .iconst 2), (38, .invokevirtual 169), (41, .ireturn), (42, .aload_n 0), (43, .iconst 0), (44, .putfield 111), (47, .bipush 12), (49, .iload_n 1), (50, .imul), (51, .iload_n 2), (52, .iadd), (53, .istore 5), (55, .aload_n 0), (56, .getfield 46), (59, .iload 5), (61, .iaload), (62, .aload_n 0), (63, .getfield 49), (66, .iload 5), (68, .iaload), (69, .iadd), (70, .istore 6), (72, .aload_n 0), (73, .getfield 46), (76, .iload 5), (78, .iload_n 3), (79, .iastore), (80, .aload_n 0), (81, .getfield 49), (84, .iload 5), (86, .iload 4), (88, .iastore), (89, .iload 6), (91, .ireturn)]
def LcX8_setFollow : List (Nat × Instr) := [(0, .aload_n 0), (1, .iload_n 1), (2, .iload_n 2), (3, .invokevirtual 194), (6, .ifCond .ne 9), (9, .aload_n 0), (10, .iconst 1), (11, .invokevirtual 169), (14, .ireturn), (15, .iload_n 3), (16, .iconst 1), (17, .bipush 20), (19, .invokestatic 118), (22, .ifCond .ne 14), (25, .iload_n 3), (26, .iconst (-1)), (27, .if_icmp .eq 9), (30, .aload_n 0), (31, .iconst 2), (32, .invokevirtual 169), (35, .ireturn), (36, .aload_n 0), (37, .iconst 0), (38, .putfield 111), (41, .aload_n 0), (42, .getfield 52), (45, .bipush 12), (47, .iload_n 1), (48, .imul), (49, .iload_n 2), (50, .iadd), (51, .iaload), (52, .istore 4), (54, .aload_n 0), (55, .getfield 52), (58, .bipush 12), (60, .iload_n 1), (61, .imul), (62, .iload_n 2), (63, .iadd), (64, .iload_n 3), (65, .iastore), (66, .iload 4), (68, .ireturn)]
def LcX8_setLink : List (Nat × Instr) := [(0, .aload_n 0), (1, .iload_n 1), (2, .iload_n 2), (3, .invokevirtual 194), (6, .ifCond .ne 9), (9, .aload_n 0), (10, .iconst 1), (11, .invokevirtual 169), (14, .ireturn), (15, .iload_n 3), (16, .iconst (-1)), (17, .bipush 11), (19, .invokestatic 118), (22, .ifCond .ne 9), (25, .aload_n 0), (26, .iconst 2), (27, .invokevirtual 169), (30, .ireturn), (31, .aload_n 0), (32, .iconst 0), (33, .putfield 111), (36, .aload_n 0), (37, .getfield 55), (40, .bipush 12), (42, .iload_n 1), (43, .imul), (44, .iload_n 2), (45, .iadd), (46, .iaload), (47, .istore 4), (49, .aload_n 0), (50, .getfield 55), (53, .bipush 12), (55, .iload_n 1), (56, .imul), (57, .iload_n 2), (58, .iadd), (59, .iload_n 3), (60, .iastore), (61, .iload 4), (63, .ireturn)]
def LcX8_setCode : List (Nat × Instr) := [(0, .aload_n 0), (1, .iload_n 1), (2, .iload_n 2), (3, .invokevirtual 194), (6, .ifCond .ne 9), (9, .aload_n 0), (10, .iconst 1), (11, .invokevirtual 169), (14, .ireturn), (15, .iload_n 3), (16, .iconst (-1)), (17, .sipush 999), (20, .invokestatic 118), (23, .ifCond .ne 9), (26, .aload_n 0), (27, .iconst 2), (28, .invokevirtual 169), (31, .ireturn), (32, .aload_n 0), (33, .iconst 0), (34, .putfield 111), (37, .aload_n 0), (38, .getfield 58), (41, .bipush 12), (43, .iload_n 1), (44, .imul), (45, .iload_n 2), (46, .iadd), (47, .iaload), (48, .istore 4), (50, .aload_n 0), (51, .getfield 58), (54, .bipush 12), (56, .iload_n 1), (57, .imul), (58, .iload_n 2), (59, .iadd), (60, .iload_n 3), (61, .iastore), (62, .iload 4), (64, .ireturn)]
def LcX8_setAssert : List (Nat × Instr) := [(0, .aload_n 0), (1, .aload_n 0), (2, .iload_n 1), (3, .iload_n 2), (4, .invokevirtual 194), (7, .ifCond .eq 7), (10, .iconst 0), (11, .goto 4), (14, .iconst 1), (15, .putfield 111), (18, .aload_n 0), (19, .getfield 111), (22, .ifCond .le 5), (25, .iconst 0), (26, .ireturn), (27, .aload_n 0), (28, .getfield 61), (31, .bipush 12), (33, .iload_n 1), (34, .imul), (35, .iload_n 2), (36, .iadd), (37, .baload), (38, .istore 4), (40, .aload_n 0), (41, .getfield 61), (44, .bipush 12), (46, .iload_n 1), (47, .imul), (48, .iload_n 2), (49, .iadd), (50, .iload_n 3), (51, .bastore), (52, .iload 4), (54, .ireturn)]
def LcX8_setMaster : List (Nat × Instr) := [(0, .aload_n 0), (1, .iload_n 1), (2, .invokevirtual 122), (5, .ifCond .ne 9), (8, .aload_n 0), (9, .iconst 1), (10, .invokevirtual 169), (13, .ireturn), (14, .iload_n 2), (15, .iconst 0), (16, .bipush 100), (18, .invokestatic 118), (21, .ifCond .ne 9), (24, .aload_n 0), (25, .iconst 2), (26, .invokevirtual 169), (29, .ireturn), (30, .aload_n 0), (31, .iconst 0), (32, .putfield 111), (35, .aload_n 0), (36, .getfield 37), (39, .iload_n 1), (40, .iaload), (41, .istore_n 3), (42, .aload_n 0), (43, .getfield 37), (46, .iload_n 1), (47, .iload_n 2), (48, .iastore), (49, .iload_n 3), (50, .ireturn)]
def LcX8_setPriority : List (Nat × Instr) := [(0, .aload_n 0), (1, .iload_n 1), (2, .invokevirtual 122), (5, .ifCond .ne 9), (8, .aload_n 0), (9, .iconst 1), (10, .invokevirtual 169), (13, .ireturn), (14, .iload_n 2), (15, .iconst 0), (16, .bipush 9), (18, .invokestatic 118), (21, .ifCond .ne 9), (24, .aload_n 0), (25, .iconst 2), (26, .invokevirtual 169), (29, .ireturn), (30, .aload_n 0), (31, .iconst 0), (32, .putfield 111), (35, .aload_n 0), (36, .getfield 40), (39, .iload_n 1), (40, .iaload), (41, .istore_n 3), (42, .aload_n 0), (43, .getfield 40), (46, .iload_n 1), (47, .iload_n 2), (48, .iastore), (49, .iload_n 3), (50, .ireturn)]
def LcX8_go : List (Nat × Instr) := [(0, .aload_n 0), (1, .iload_n 1), (2, .invokevirtual 122), (5, .ifCond .ne 9), (8, .aload_n 0), (9, .iconst 1), (10, .invokevirtual 169), (13, .ireturn), (14, .aload_n 0), (15, .iload_n 1), (16, .invokevirtual 198), (19, .istore_n 2), (20, .iload_n 2), (21, .iconst (-1)), (22, .if_icmp .ne 9), (25, .aload_n 0), (26, .iconst 2), (27, .invokevirtual 169), (30, .ireturn), (31, .aload_n 0), (32, .aload_n 0), (33, .iload_n 1), (34, .iload_n 2), (35, .invokevirtual 201), (38, .ifCond .ge 7), (41, .iconst 2), (42, .goto 4), (45, .iconst 0), (46, .putfield 111), (49, .iload_n 2), (50, .ireturn)]
def LcX8_goTo : List (Nat × Instr) := [(0, .aload_n 0), (1, .iload_n 1), (2, .iload_n 2), (3, .invokevirtual 194), (6, .ifCond .ne 9), (9, .aload_n 0), (10, .iconst 1), (11, .invokevirtual 169), (14, .ireturn), (15, .aload_n 0), (16, .iconst 0), (17, .putfield 111), (20, .aload_n 0), (21, .iload_n 1), (22, .iload_n 2), (23, .invokevirtual 201), (26, .ireturn)]
def LcX8_release : List (Nat × Instr) := [(0, .aload_n 0), (1, .iload_n 1), (2, .invokevirtual 122), (5, .ifCond .ne 9), (8, .aload_n 0), (9, .iconst 1), (10, .invokevirtual 169), (13, .ireturn), (14, .aload_n 0), (15, .getfield 31), (18, .iload_n 1), (19, .iaload), (20, .iconst (-1)), (21, .if_icmp .ne 9), (24, .aload_n 0), (25, .iconst 2), (26, .invokevirtual 169), (29, .ireturn), (30, .aload_n 0), (31, .iconst 0), (32, .putfield 111), (35, .iconst 0), (36, .istore_n 2), (37, .iconst 0), (38, .istore_n 3), (39, .iload_n 3), (40, .bipush 48), (42, .if_icmp .ge 43), (45, .iload_n 2), (46, .aload_n 0), (47, .getfield 65), (50, .bipush 48), (52, .iload_n 1), (53, .imul), (54, .iload_n 3), (55, .iadd), (56, .baload), (57, .ifCond .eq 7), (60, .iconst 1), (61, .goto 4), (64, .iconst 0), (65, .iadd), (66, .istore_n 2), (67, .aload_n 0), (68, .getfield 65), (71, .bipush 48), (73, .iload_n 1), (74, .imul), (75, .iload_n 3), (76, .iadd), (77, .iconst 0), (78, .bastore), (79, .iinc 3 1), (82, .goto (-43)), (85, .aload_n 0), (86, .getfield 31), (89, .iload_n 1), (90, .iconst (-1)), (91, .iastore), (92, .iload_n 2), (93, .ireturn)]
def LcX8_update : List (Nat × Instr) := [(0, .aload_n 0), (1, .iload_n 1), (2, .invokevirtual 122), (5, .ifCond .ne 9), (8, .aload_n 0), (9, .iconst 1), (10, .invokevirtual 169), (13, .ireturn), (14, .aload_n 0), (15, .getfield 31), (18, .iload_n 1), (19, .iaload), (20, .iconst (-1)), (21, .if_icmp .ne 9), (24, .aload_n 0), (25, .iconst 2), (26, .invokevirtual 169), (29, .ireturn), (30, .aload_n 0), (31, .iconst 0), (32, .putfield 111), (35, .aload_n 0), (36, .invokevirtual 187), (39, .istore_n 2), (40, .iconst 0), (41, .istore_n 3), (42, .iload_n 3), (43, .bipush 48), (45, .if_icmp .ge 127), (48, .aload_n 0), (49, .getfield 25), (52, .iload_n 3), (53, .iaload), (54, .istore 4), (56, .iload 4), (58, .iconst (-1)), (59, .if_icmp .ne 6), (62, .goto 104), (65, .aload_n 0), (66, .iload_n 1), (67, .aload_n 0), (68, .getfield 31), (71, .iload_n 1), (72, .iaload), (73, .iload_n 3), (74, .invokevirtual 130), (77, .istore 5), (79, .iload 5), (81, .iconst (-1)), (82, .if_icmp .ne 7), (85, .iconst (-1)), (86, .goto 16), (89, .aload_n 0), (90, .getfield 43), (93, .aload_n 0), (94, .iload_n 1), (95, .iload 5), (97, .iload_n 3), (98, .invokevirtual 126), (101, .iaload), (102, .istore 6), (104, .iload 6), (106, .sipush 1000), (109, .if_icmp .lt 27), (112, .iload 4), (114, .sipush 1000), (117, .if_icmp .ge 19), (120, .aload_n 0), (121, .getfield 22), (124, .iload 6), (126, .sipush 1000), (129, .isub), (130, .iload 4), (132, .iastore), (133, .goto 33), (136, .aload_n 0), (137, .getfield 43), (140, .aload_n 0), (141, .iload_n 1), (142, .iload 5), (144, .iconst (-1)), (145, .if_icmp .ne 12), (148, .aload_n 0), (149, .getfield 31), (152, .iload_n 1), (153, .iaload), (154, .goto 5), (157, .iload 5), (159, .iload_n 3), (160, .invokevirtual 126), (163, .iload 4), (165, .iastore), (166, .iinc 3 1), (169, .goto (-127)), (172, .aload_n 0), (173, .invokevirtual 191), (176, .iload_n 2), (177, .ireturn)]
def LcX8_pass : List (Nat × Instr) := [(0, .iload_n 1), (1, .iconst 1), (2, .bipush 30), (4, .invokestatic 118), (7, .ifCond .ne 9), (10, .aload_n 0), (11, .iconst 1), (12, .invokevirtual 169), (15, .ireturn), (16, .aload_n 0), (17, .getfield 140), (20, .iload_n 1), (21, .iadd), (22, .sipush 5000), (25, .if_icmp .le 9), (28, .aload_n 0), (29, .iconst 2), (30, .invokevirtual 169), (33, .ireturn), (34, .aload_n 0), (35, .iconst 0), (36, .putfield 111), (39, .iconst 0), (40, .istore_n 2), (41, .iload_n 2), (42, .iload_n 1), (43, .if_icmp .ge 122), (46, .aload_n 0), (47, .dup), (48, .getfield 140), (51, .iconst 1), (52, .iadd), (53, .putfield 140), (56, .iconst 0), (57, .istore_n 3), (58, .iload_n 3), (59, .iconst 3), (60, .if_icmp .ge 99), (63, .aload_n 0), (64, .getfield 31), (67, .iload_n 3), (68, .iaload), (69, .istore 4), (71, .iload 4), (73, .iconst (-1)), (74, .if_icmp .eq 79), (77, .aload_n 0), (78, .getfield 52), (81, .bipush 12), (83, .iload_n 3), (84, .imul), (85, .iload 4), (87, .iadd), (88, .iaload), (89, .iconst (-1)), (90, .if_icmp .eq 63), (93, .aload_n 0), (94, .getfield 140), (97, .aload_n 0), (98, .getfield 34), (101, .iload_n 3), (102, .iaload), (103, .isub), (104, .aload_n 0), (105, .getfield 52), (108, .bipush 12), (110, .iload_n 3), (111, .imul), (112, .iload 4), (114, .iadd), (115, .iaload), (116, .if_icmp .eq 6), (119, .goto 34), (122, .aload_n 0), (123, .iload_n 3), (124, .invokevirtual 198), (127, .iconst (-1)), (128, .if_icmp .eq 25), (131, .aload_n 0), (132, .aload_n 0), (133, .iload_n 3), (134, .aload_n 0), (135, .iload_n 3), (136, .invokevirtual 198), (139, .invokevirtual 201), (142, .ifCond .ge 7), (145, .iconst 1), (146, .goto 4), (149, .iconst 0), (150, .putfield 111), (153, .iinc 3 1), (156, .goto (-98)), (159, .iinc 2 1), (162, .goto (-121)), (165, .aload_n 0), (166, .getfield 140), (169, .ireturn)]
def LcX8_code : List (Nat × Instr) := [(0, .iload_n 1), (1, .iconst 0), (2, .sipush 999), (5, .invokestatic 118), (8, .ifCond .ne 9), (11, .aload_n 0), (12, .iconst 1), (13, .invokevirtual 169), (16, .ireturn), (17, .aload_n 0), (18, .iconst 0), (19, .putfield 111), (22, .iconst 0), (23, .istore_n 2), (24, .iconst 0), (25, .istore_n 3), (26, .iload_n 3), (27, .iconst 3), (28, .if_icmp .ge 123), (31, .iconst (-1)), (32, .istore 4), (34, .iconst 0), (35, .istore 5), (37, .iload 5), (39, .aload_n 0), (40, .getfield 28), (43, .iload_n 3), (44, .iaload), (45, .if_icmp .ge 62), (48, .aload_n 0), (49, .getfield 58), (52, .bipush 12), (54, .iload_n 3), (55, .imul), (56, .iload 5), (58, .iadd), (59, .iaload), (60, .istore 6), (62, .iload 6), (64, .iconst (-1)), (65, .if_icmp .eq 36), (68, .iload 6), (70, .iload_n 1), (71, .if_icmp .gt 30), (74, .iload 4), (76, .iconst (-1)), (77, .if_icmp .eq 20), (80, .iload 6), (82, .aload_n 0), (83, .getfield 58), (86, .bipush 12), (88, .iload_n 3), (89, .imul), (90, .iload 4), (92, .iadd), (93, .iaload), (94, .if_icmp .le 7), (97, .iload 5), (99, .istore 4), (101, .iinc 5 1), (104, .goto (-67)), (107, .iload 4), (109, .iconst (-1)), (110, .if_icmp .eq 35), (113, .iload 4), (115, .aload_n 0), (116, .getfield 31), (119, .iload_n 3), (120, .iaload), (121, .if_icmp .ne 6), (124, .goto 21), (127, .iload_n 2), (128, .aload_n 0), (129, .iload_n 3), (130, .iload 4), (132, .invokevirtual 201), (135, .ifCond .ge 7), (138, .iconst 0), (139, .goto 4), (142, .iconst 1), (143, .iadd), (144, .istore_n 2), (145, .iinc 3 1), (148, .goto (-122)), (151, .iload_n 2), (152, .ireturn)]
def LcX8_addEffect : List (Nat × Instr) := [(0, .iload_n 1), (1, .iconst 0), (2, .aload_n 0), (3, .getfield 175), (6, .iconst 1), (7, .isub), (8, .invokestatic 118), (11, .ifCond .ne 9), (14, .aload_n 0), (15, .iconst 1), (16, .invokevirtual 169), (19, .ireturn), (20, .iload_n 3), (21, .bipush 119), (23, .if_icmp .eq 15), (26, .iload_n 3), (27, .bipush 116), (29, .if_icmp .eq 9), (32, .iload_n 3), (33, .bipush 113), (35, .if_icmp .ne 7), (38, .iconst 1), (39, .goto 4), (42, .iconst 0), (43, .istore 7), (45, .iload_n 2), (46, .invokestatic 178), (49, .ifCond .eq 44), (52, .iload 7), (54, .ifCond .eq 39), (57, .iload 4), (59, .sipush (-255)), (62, .sipush 255), (65, .invokestatic 118), (68, .ifCond .eq 25), (71, .iload 5), (73, .iconst 2), (74, .bipush 20), (76, .invokestatic 118), (79, .ifCond .eq 14), (82, .iload 6), (84, .iconst 0), (85, .bipush 19), (87, .invokestatic 118), (90, .ifCond .ne 9), (93, .aload_n 0), (94, .iconst 2), (95, .invokevirtual 169), (98, .ireturn), (99, .aload_n 0), (100, .getfield 155), (103, .iconst 4), (104, .if_icmp .ne 9), (107, .aload_n 0), (108, .iconst 3), (109, .invokevirtual 169), (112, .ireturn), (113, .aload_n 0), (114, .iconst 0), (115, .putfield 111), (118, .aload_n 0), (119, .getfield 87), (122, .aload_n 0), (123, .getfield 155), (126, .iload_n 1), (127, .iastore), (128, .aload_n 0), (129, .getfield 90), (132, .aload_n 0), (133, .getfield 155), (136, .iload_n 2), (137, .iastore), (138, .aload_n 0), (139, .getfield 93), (142, .aload_n 0), (143, .getfield 155), (146, .iload_n 3), (147, .iastore), (148, .aload_n 0), (149, .getfield 96), (152, .aload_n 0), (153, .getfield 155), (156, .iload 4), (158, .iastore), (159, .aload_n 0), (160, .getfield 99), (163, .aload_n 0), (164, .getfield 155), (167, .iload 5), (169, .iastore), (170, .aload_n 0), (171, .getfield 102), (174, .aload_n 0), (175, .getfield 155), (178, .iload 6), (180, .iastore), (181, .aload_n 0), (182, .dup), (183, .getfield 155), (186, .iconst 1), (187, .iadd), (188, .putfield 155), (191, .aload_n 0), (192, .getfield 155), (195, .iconst 1), (196, .isub), (197, .ireturn)]
def LcX8_countRunning : List (Nat × Instr) := [(0, .iconst 0), (1, .istore_n 1), (2, .iconst 0), (3, .istore_n 2), (4, .iload_n 2), (5, .aload_n 0), (6, .getfield 155), (9, .if_icmp .ge 26), (12, .iload_n 1), (13, .aload_n 0), (14, .getfield 108), (17, .iload_n 2), (18, .baload), (19, .ifCond .eq 7), (22, .iconst 1), (23, .goto 4), (26, .iconst 0), (27, .iadd), (28, .istore_n 1), (29, .iinc 2 1), (32, .goto (-28)), (35, .iload_n 1), (36, .ireturn)]
def LcX8_start : List (Nat × Instr) := [(0, .iload_n 1), (1, .iconst 0), (2, .aload_n 0), (3, .getfield 155), (6, .iconst 1), (7, .isub), (8, .invokestatic 118), (11, .ifCond .ne 9), (14, .aload_n 0), (15, .iconst 1), (16, .invokevirtual 169), (19, .ireturn), (20, .aload_n 0), (21, .getfield 108), (24, .iload_n 1), (25, .baload), (26, .ifCond .eq 9), (29, .aload_n 0), (30, .iconst 2), (31, .invokevirtual 169), (34, .ireturn), (35, .aload_n 0), (36, .iconst 0), (37, .putfield 111), (40, .aload_n 0), (41, .getfield 108), (44, .iload_n 1), (45, .iconst 1), (46, .bastore), (47, .aload_n 0), (48, .getfield 105), (51, .iload_n 1), (52, .aload_n 0), (53, .getfield 140), (56, .iastore), (57, .aload_n 0), (58, .invokevirtual 204), (61, .ireturn)]
def LcX8_stop : List (Nat × Instr) := [(0, .iload_n 1), (1, .iconst 0), (2, .aload_n 0), (3, .getfield 155), (6, .iconst 1), (7, .isub), (8, .invokestatic 118), (11, .ifCond .ne 9), (14, .aload_n 0), (15, .iconst 1), (16, .invokevirtual 169), (19, .ireturn), (20, .aload_n 0), (21, .getfield 108), (24, .iload_n 1), (25, .baload), (26, .ifCond .ne 9), (29, .aload_n 0), (30, .iconst 2), (31, .invokevirtual 169), (34, .ireturn), (35, .aload_n 0), (36, .iconst 0), (37, .putfield 111), (40, .aload_n 0), (41, .getfield 108), (44, .iload_n 1), (45, .iconst 0), (46, .bastore), (47, .aload_n 0), (48, .invokevirtual 204), (51, .ireturn)]
def LcX8_isSlot : List (Nat × Instr) := [(0, .aload_n 0), (1, .aload_n 0), (2, .iload_n 1), (3, .invokevirtual 172), (6, .ifCond .ne 7), (9, .iconst 1), (10, .goto 15), (13, .iload_n 2), (14, .invokestatic 178), (17, .ifCond .ne 7), (20, .iconst 2), (21, .goto 4), (24, .iconst 0), (25, .putfield 111), (28, .aload_n 0), (29, .getfield 111), (32, .ifCond .ne 7), (35, .iconst 1), (36, .goto 4), (39, .iconst 0), (40, .ireturn)]
def LcX8_output : List (Nat × Instr) := [(0, .aload_n 0), (1, .iload_n 1), (2, .iload_n 2), (3, .invokevirtual 207), (6, .ifCond .eq 16), (9, .aload_n 0), (10, .iconst 4), (11, .iload_n 1), (12, .imul), (13, .iload_n 2), (14, .iadd), (15, .invokevirtual 210), (18, .f2i), (19, .goto 4), (22, .iconst 0), (23, .ireturn)]
def LcX8_outputBits : List (Nat × Instr) := [(0, .aload_n 0), (1, .iload_n 1), (2, .iload_n 2), (3, .invokevirtual 207), (6, .ifCond .eq 18), (9, .aload_n 0), (10, .iconst 4), (11, .iload_n 1), (12, .imul), (13, .iload_n 2), (14, .iadd), (15, .invokevirtual 210), (18, .invokestatic 213), (21, .goto 4), (24, .iconst 0), (25, .ireturn)]
def LcX8_lineValue : List (Nat × Instr) := [(0, .iconst 0), (1, .istore_n 2), (2, .iload_n 2), (3, .aload_n 0), (4, .getfield 115), (7, .if_icmp .ge 53), (10, .aload_n 0), (11, .getfield 7), (14, .iload_n 2), (15, .iaload), (16, .iconst (-1)), (17, .if_icmp .eq 37), (20, .iload_n 1), (21, .aload_n 0), (22, .getfield 7), (25, .iload_n 2), (26, .iaload), (27, .isub), (28, .iconst 0), (29, .iconst 3), (30, .invokestatic 118), (33, .ifCond .eq 21), (36, .aload_n 0), (37, .iconst 4), (38, .iload_n 2), (39, .imul), (40, .iload_n 1), (41, .iadd), (42, .aload_n 0), (43, .getfield 7), (46, .iload_n 2), (47, .iaload), (48, .isub), (49, .invokevirtual 210), (52, .f2i), (53, .ireturn), (54, .iinc 2 1), (57, .goto (-55)), (60, .iconst 0), (61, .ireturn)]
def LcX8_line : List (Nat × Instr) := [(0, .iload_n 1), (1, .iconst 0), (2, .bipush 63), (4, .invokestatic 118), (7, .ifCond .ne 9), (10, .aload_n 0), (11, .iconst 1), (12, .invokevirtual 169), (15, .ireturn), (16, .aload_n 0), (17, .iconst 0), (18, .putfield 111), (21, .aload_n 0), (22, .iload_n 1), (23, .invokevirtual 219), (26, .ireturn)]
def LcX8_decides : List (Nat × Instr) := [(0, .aload_n 0), (1, .iload_n 1), (2, .iload_n 2), (3, .invokevirtual 207), (6, .ifCond .ne 5), (9, .iconst 0), (10, .ireturn), (11, .aload_n 0), (12, .iconst 4), (13, .iload_n 1), (14, .imul), (15, .iload_n 2), (16, .iadd), (17, .invokevirtual 151), (20, .fstore_n 3), (21, .aload_n 0), (22, .getfield 143), (25, .iconst (-1)), (26, .if_icmp .eq 9), (29, .fload_n 3), (30, .fconst 0), (31, .fcmp .g), (32, .ifCond .ge 11), (35, .aload_n 0), (36, .iconst 3), (37, .invokevirtual 169), (40, .goto 7), (43, .aload_n 0), (44, .getfield 143), (47, .ireturn)]
def LcX8_valueIn : List (Nat × Instr) := [(0, .aload_n 0), (1, .iload_n 1), (2, .invokevirtual 122), (5, .ifCond .eq 11), (8, .aload_n 0), (9, .iload_n 2), (10, .invokevirtual 172), (13, .ifCond .ne 9), (16, .aload_n 0), (17, .iconst 1), (18, .invokevirtual 169), (21, .ireturn), (22, .iload_n 3), (23, .invokestatic 178), (26, .ifCond .ne 9), (29, .aload_n 0), (30, .iconst 2), (31, .invokevirtual 169), (34, .ireturn), (35, .aload_n 0), (36, .getfield 65), (39, .bipush 48), (41, .iload_n 1), (42, .imul), (43, .iconst 4), (44, .iload_n 2), (45, .imul), (46, .iadd), (47, .iload_n 3), (48, .iadd), (49, .baload), (50, .ifCond .ne 9), (53, .aload_n 0), (54, .iconst 3), (55, .invokevirtual 169), (58, .ireturn), (59, .aload_n 0), (60, .iconst 0), (61, .putfield 111), (64, .aload_n 0), (65, .iload_n 1), (66, .iconst 4), (67, .iload_n 2), (68, .imul), (69, .iload_n 3), (70, .iadd), (71, .invokevirtual 146), (74, .f2i), (75, .ireturn)]
def LcX8_entryOf : List (Nat × Instr) := [(0, .aload_n 0), (1, .aload_n 0), (2, .iload_n 1), (3, .iload_n 2), (4, .invokevirtual 194), (7, .ifCond .eq 11), (10, .aload_n 0), (11, .iload_n 3), (12, .invokevirtual 172), (15, .ifCond .ne 7), (18, .iconst 1), (19, .goto 16), (22, .iload 4), (24, .invokestatic 178), (27, .ifCond .ne 7), (30, .iconst 2), (31, .goto 4), (34, .iconst 0), (35, .putfield 111), (38, .aload_n 0), (39, .getfield 111), (42, .ifCond .le 5), (45, .iconst (-1)), (46, .ireturn), (47, .aload_n 0), (48, .iload_n 1), (49, .iload_n 2), (50, .iconst 4), (51, .iload_n 3), (52, .imul), (53, .iload 4), (55, .iadd), (56, .invokevirtual 133), (59, .istore 5), (61, .aload_n 0), (62, .iload 5), (64, .iconst (-1)), (65, .if_icmp .ne 7), (68, .iconst 3), (69, .goto 4), (72, .iconst 0), (73, .putfield 111), (76, .iload 5), (78, .ireturn)]
def LcX8_tracked : List (Nat × Instr) := [(0, .aload_n 0), (1, .iload_n 1), (2, .iload_n 2), (3, .iload_n 3), (4, .iload 4), (6, .invokevirtual 222), (9, .istore 5), (11, .aload_n 0), (12, .getfield 111), (15, .ifCond .ne 12), (18, .aload_n 0), (19, .iload 5), (21, .invokevirtual 136), (24, .goto 4), (27, .iconst 0), (28, .ireturn)]
def LcX8_source : List (Nat × Instr) := [(0, .aload_n 0), (1, .iload_n 1), (2, .iload_n 2), (3, .iload_n 3), (4, .iload 4), (6, .invokevirtual 222), (9, .istore 5), (11, .aload_n 0), (12, .getfield 111), (15, .ifCond .ne 24), (18, .iload 5), (20, .iconst (-1)), (21, .if_icmp .eq 18), (24, .aload_n 0), (25, .iload_n 1), (26, .iload_n 2), (27, .iconst 4), (28, .iload_n 3), (29, .imul), (30, .iload 4), (32, .iadd), (33, .invokevirtual 130), (36, .goto 4), (39, .iconst 0), (40, .ireturn)]
def LcX8_paletteOf : List (Nat × Instr) := [(0, .aload_n 0), (1, .iload_n 1), (2, .iload_n 2), (3, .iload_n 3), (4, .iload 4), (6, .invokevirtual 222), (9, .istore 5), (11, .aload_n 0), (12, .getfield 111), (15, .ifCond .le 5), (18, .iconst 0), (19, .ireturn), (20, .iload 5), (22, .sipush 1000), (25, .if_icmp .lt 12), (28, .iload 5), (30, .sipush 1000), (33, .isub), (34, .goto 8), (37, .aload_n 0), (38, .iconst 3), (39, .invokevirtual 169), (42, .ireturn)]
def LcX8_cueOf : List (Nat × Instr) := [(0, .aload_n 0), (1, .iload_n 1), (2, .invokevirtual 122), (5, .ifCond .ne 9), (8, .aload_n 0), (9, .iconst 1), (10, .invokevirtual 169), (13, .ireturn), (14, .aload_n 0), (15, .getfield 31), (18, .iload_n 1), (19, .iaload), (20, .iconst (-1)), (21, .if_icmp .ne 9), (24, .aload_n 0), (25, .iconst 2), (26, .invokevirtual 169), (29, .ireturn), (30, .aload_n 0), (31, .iconst 0), (32, .putfield 111), (35, .aload_n 0), (36, .getfield 31), (39, .iload_n 1), (40, .iaload), (41, .ireturn)]
def LcX8_cues : List (Nat × Instr) := [(0, .aload_n 0), (1, .iload_n 1), (2, .invokevirtual 122), (5, .ifCond .ne 9), (8, .aload_n 0), (9, .iconst 1), (10, .invokevirtual 169), (13, .ireturn), (14, .aload_n 0), (15, .iconst 0), (16, .putfield 111), (19, .aload_n 0), (20, .getfield 28), (23, .iload_n 1), (24, .iaload), (25, .ireturn)]
def LcX8_isFading : List (Nat × Instr) := [(0, .aload_n 0), (1, .aload_n 0), (2, .iload_n 1), (3, .invokevirtual 122), (6, .ifCond .eq 7), (9, .iconst 0), (10, .goto 4), (13, .iconst 1), (14, .putfield 111), (17, .aload_n 0), (18, .getfield 111), (21, .ifCond .le 5), (24, .iconst 0), (25, .ireturn), (26, .iconst 0), (27, .istore_n 2), (28, .bipush 48), (30, .iload_n 1), (31, .imul), (32, .istore_n 3), (33, .iload_n 3), (34, .bipush 48), (36, .iload_n 1), (37, .imul), (38, .bipush 48), (40, .iadd), (41, .if_icmp .ge 61), (44, .iload_n 2), (45, .ifCond .ne 45), (48, .aload_n 0), (49, .getfield 65), (52, .iload_n 3), (53, .baload), (54, .ifCond .eq 40), (57, .aload_n 0), (58, .getfield 140), (61, .aload_n 0), (62, .getfield 71), (65, .iload_n 3), (66, .iaload), (67, .isub), (68, .aload_n 0), (69, .getfield 74), (72, .iload_n 3), (73, .iaload), (74, .ifCond .le 12), (77, .aload_n 0), (78, .getfield 74), (81, .iload_n 3), (82, .iaload), (83, .goto 4), (86, .iconst 0), (87, .if_icmp .ge 7), (90, .iconst 1), (91, .goto 4), (94, .iconst 0), (95, .istore_n 2), (96, .iinc 3 1), (99, .goto (-66)), (102, .iload_n 2), (103, .ireturn)]
def LcX8_time : List (Nat × Instr) := [(0, .aload_n 0), (1, .iconst 0), (2, .putfield 111), (5, .aload_n 0), (6, .getfield 140), (9, .ireturn)]
def LcX8_sum : List (Nat × Instr) := [(0, .aload_n 0), (1, .iconst 0), (2, .putfield 111), (5, .lconst 0), (6, .lstore_n 1), (7, .iconst 0), (8, .istore_n 3), (9, .iload_n 3), (10, .bipush 64), (12, .if_icmp .ge 18), (15, .lload_n 1), (16, .aload_n 0), (17, .iload_n 3), (18, .invokevirtual 219), (21, .i2l), (22, .ladd), (23, .lstore_n 1), (24, .iinc 3 1), (27, .goto (-18)), (30, .lload_n 1), (31, .lreturn)]
def LcX8_litShare : List (Nat × Instr) := [(0, .aload_n 0), (1, .aload_n 0), (2, .getfield 115), (5, .ifCond .ne 7), (8, .iconst 1), (9, .goto 4), (12, .iconst 0), (13, .putfield 111), (16, .iconst 0), (17, .istore_n 1), (18, .iconst 0), (19, .istore_n 2), (20, .iload_n 2), (21, .aload_n 0), (22, .getfield 115), (25, .if_icmp .ge 29), (28, .iload_n 1), (29, .aload_n 0), (30, .iconst 4), (31, .iload_n 2), (32, .imul), (33, .invokevirtual 210), (36, .fconst 0), (37, .fcmp .l), (38, .ifCond .le 7), (41, .iconst 1), (42, .goto 4), (45, .iconst 0), (46, .iadd), (47, .istore_n 1), (48, .iinc 2 1), (51, .goto (-31)), (54, .aload_n 0), (55, .getfield 115), (58, .ifCond .ne 7), (61, .fconst 0), (62, .goto 11), (65, .iload_n 1), (66, .i2f), (67, .aload_n 0), (68, .getfield 115), (71, .i2f), (72, .fdiv), (73, .freturn)]
def LcX8_meanStored : List (Nat × Instr) := [(0, .aload_n 0), (1, .getfield 28), (4, .iconst 0), (5, .iaload), (6, .aload_n 0), (7, .getfield 28), (10, .iconst 1), (11, .iaload), (12, .iadd), (13, .aload_n 0), (14, .getfield 28), (17, .iconst 2), (18, .iaload), (19, .iadd), (20, .istore_n 1), (21, .aload_n 0), (22, .iload_n 1), (23, .ifCond .ne 7), (26, .iconst 1), (27, .goto 4), (30, .iconst 0), (31, .putfield 111), (34, .iconst 0), (35, .istore_n 2), (36, .iconst 0), (37, .istore_n 3), (38, .iload_n 3), (39, .sipush 1728), (42, .if_icmp .ge 27), (45, .iload_n 2), (46, .aload_n 0), (47, .getfield 43), (50, .iload_n 3), (51, .iaload), (52, .iconst (-1)), (53, .if_icmp .ne 7), (56, .iconst 0), (57, .goto 4), (60, .iconst 1), (61, .iadd), (62, .istore_n 2), (63, .iinc 3 1), (66, .goto (-28)), (69, .iload_n 1), (70, .ifCond .ne 7), (73, .dconst 0), (74, .goto 8), (77, .iload_n 2), (78, .i2d), (79, .iload_n 1), (80, .i2d), (81, .ddiv), (82, .dreturn)]
def LcX8_isSound : List (Nat × Instr) := [(0, .aload_n 0), (1, .iconst 0), (2, .putfield 111), (5, .iconst 1), (6, .ireturn)]
def LcJxf58ca_isNaN_12338 : List (Nat × Instr) := [(0, .fload_n 0), (1, .fload_n 0), (2, .fcmp .l), (3, .ifCond .eq 7), (6, .iconst 1), (7, .goto 4), (10, .iconst 0), (11, .ireturn)]
def LcJxf58ca_floatToIntBits_5c35a : List (Nat × Instr) := [(0, .fload_n 0), (1, .invokestatic 59), (4, .ifCond .ne 8), (7, .fload_n 0), (8, .invokestatic 74), (11, .ireturn), (12, .ldc 77), (14, .ireturn)]
def LcL_addLamp : List (Nat × Instr) := [(0, .aload_n 1), (1, .iconst 0), (2, .aload_n 0), (3, .invokevirtual 7), (6, .i2l), (7, .lastore), (8, .goto 6), (11, .astore_n 2), (12, .iconst 1), (13, .ireturn), (14, .iconst 0), (15, .ireturn)]
def LcL_patch : List (Nat × Instr) := [(0, .aload_n 3), (1, .iconst 0), (2, .aload_n 0), (3, .iload_n 1), (4, .iload_n 2), (5, .invokevirtual 15), (8, .i2l), (9, .lastore), (10, .goto 15), (13, .astore 4), (15, .iconst 1), (16, .ireturn), (17, .astore 4), (19, .iconst 2), (20, .ireturn), (21, .astore 4), (23, .iconst 3), (24, .ireturn), (25, .iconst 0), (26, .ireturn)]
def LcL_addGroup : List (Nat × Instr) := [(0, .aload_n 1), (1, .iconst 0), (2, .aload_n 0), (3, .invokevirtual 23), (6, .i2l), (7, .lastore), (8, .goto 6), (11, .astore_n 2), (12, .iconst 1), (13, .ireturn), (14, .iconst 0), (15, .ireturn)]
def LcL_addToGroup : List (Nat × Instr) := [(0, .aload_n 3), (1, .iconst 0), (2, .aload_n 0), (3, .iload_n 1), (4, .iload_n 2), (5, .invokevirtual 26), (8, .i2l), (9, .lastore), (10, .goto 15), (13, .astore 4), (15, .iconst 1), (16, .ireturn), (17, .astore 4), (19, .iconst 2), (20, .ireturn), (21, .astore 4), (23, .iconst 3), (24, .ireturn), (25, .iconst 0), (26, .ireturn)]
def LcL_addPalette : List (Nat × Instr) := [(0, .aload_n 3), (1, .iconst 0), (2, .aload_n 0), (3, .iload_n 1), (4, .iload_n 2), (5, .invokevirtual 31), (8, .i2l), (9, .lastore), (10, .goto 11), (13, .astore 4), (15, .iconst 1), (16, .ireturn), (17, .astore 4), (19, .iconst 2), (20, .ireturn), (21, .iconst 0), (22, .ireturn)]
def LcL_setPalette : List (Nat × Instr) := [(0, .aload_n 3), (1, .iconst 0), (2, .aload_n 0), (3, .iload_n 1), (4, .iload_n 2), (5, .invokevirtual 34), (8, .i2l), (9, .lastore), (10, .goto 11), (13, .astore 4), (15, .iconst 1), (16, .ireturn), (17, .astore 4), (19, .iconst 2), (20, .ireturn), (21, .iconst 0), (22, .ireturn)]
def LcL_set : List (Nat × Instr) := [(0, .aload 4), (2, .iconst 0), (3, .aload_n 0), (4, .iload_n 1), (5, .iload_n 2), (6, .iload_n 3), (7, .invokevirtual 37), (10, .i2l), (11, .lastore), (12, .goto 11), (15, .astore 5), (17, .iconst 1), (18, .ireturn), (19, .astore 5), (21, .iconst 2), (22, .ireturn), (23, .iconst 0), (24, .ireturn)]
def LcL_point : List (Nat × Instr) := [(0, .aload_n 3), (1, .iconst 0), (2, .aload_n 0), (3, .iload_n 1), (4, .iload_n 2), (5, .invokevirtual 41), (8, .i2l), (9, .lastore), (10, .goto 11), (13, .astore 4), (15, .iconst 1), (16, .ireturn), (17, .astore 4), (19, .iconst 2), (20, .ireturn), (21, .iconst 0), (22, .ireturn)]
def LcL_fan : List (Nat × Instr) := [(0, .aload 5), (2, .iconst 0), (3, .aload_n 0), (4, .iload_n 1), (5, .iload_n 2), (6, .iload_n 3), (7, .iload 4), (9, .invokevirtual 44), (12, .i2l), (13, .lastore), (14, .goto 11), (17, .astore 6), (19, .iconst 1), (20, .ireturn), (21, .astore 6), (23, .iconst 2), (24, .ireturn), (25, .iconst 0), (26, .ireturn)]
def LcL_knockOut : List (Nat × Instr) := [(0, .aload_n 3), (1, .iconst 0), (2, .aload_n 0), (3, .iload_n 1), (4, .iload_n 2), (5, .invokevirtual 48), (8, .i2l), (9, .lastore), (10, .goto 15), (13, .astore 4), (15, .iconst 1), (16, .ireturn), (17, .astore 4), (19, .iconst 2), (20, .ireturn), (21, .astore 4), (23, .iconst 3), (24, .ireturn), (25, .iconst 0), (26, .ireturn)]
def LcL_record : List (Nat × Instr) := [(0, .aload_n 2), (1, .iconst 0), (2, .aload_n 0), (3, .iload_n 1), (4, .invokevirtual 51), (7, .i2l), (8, .lastore), (9, .goto 12), (12, .astore_n 3), (13, .iconst 1), (14, .ireturn), (15, .astore_n 3), (16, .iconst 2), (17, .ireturn), (18, .astore_n 3), (19, .iconst 3), (20, .ireturn), (21, .iconst 0), (22, .ireturn)]
def LcL_setTimes : List (Nat × Instr) := [(0, .aload 5), (2, .iconst 0), (3, .aload_n 0), (4, .iload_n 1), (5, .iload_n 2), (6, .iload_n 3), (7, .iload 4), (9, .invokevirtual 57), (12, .i2l), (13, .lastore), (14, .goto 11), (17, .astore 6), (19, .iconst 1), (20, .ireturn), (21, .astore 6), (23, .iconst 2), (24, .ireturn), (25, .iconst 0), (26, .ireturn)]
def LcL_setFollow : List (Nat × Instr) := [(0, .aload 4), (2, .iconst 0), (3, .aload_n 0), (4, .iload_n 1), (5, .iload_n 2), (6, .iload_n 3), (7, .invokevirtual 60), (10, .i2l), (11, .lastore), (12, .goto 11), (15, .astore 5), (17, .iconst 1), (18, .ireturn), (19, .astore 5), (21, .iconst 2), (22, .ireturn), (23, .iconst 0), (24, .ireturn)]
def LcL_setLink : List (Nat × Instr) := [(0, .aload 4), (2, .iconst 0), (3, .aload_n 0), (4, .iload_n 1), (5, .iload_n 2), (6, .iload_n 3), (7, .invokevirtual 63), (10, .i2l), (11, .lastore), (12, .goto 11), (15, .astore 5), (17, .iconst 1), (18, .ireturn), (19, .astore 5), (21, .iconst 2), (22, .ireturn), (23, .iconst 0), (24, .ireturn)]
def LcL_setCode : List (Nat × Instr) := [(0, .aload 4), (2, .iconst 0), (3, .aload_n 0), (4, .iload_n 1), (5, .iload_n 2), (6, .iload_n 3), (7, .invokevirtual 66), (10, .i2l), (11, .lastore), (12, .goto 11), (15, .astore 5), (17, .iconst 1), (18, .ireturn), (19, .astore 5), (21, .iconst 2), (22, .ireturn), (23, .iconst 0), (24, .ireturn)]
def LcL_setAssert : List (Nat × Instr) := [(0, .aload 4), (2, .iconst 0), (3, .aload_n 0), (4, .iload_n 1), (5, .iload_n 2), (6, .iload_n 3), (7, .invokevirtual 69), (10, .ifCond .eq 7), (13, .lconst 1), (14, .goto 4), (17, .lconst 0), (18, .lastore), (19, .goto 7), (22, .astore 5), (24, .iconst 1), (25, .ireturn), (26, .iconst 0), (27, .ireturn)]
def LcL_setMaster : List (Nat × Instr) := [(0, .aload_n 3), (1, .iconst 0), (2, .aload_n 0), (3, .iload_n 1), (4, .iload_n 2), (5, .invokevirtual 73), (8, .i2l), (9, .lastore), (10, .goto 11), (13, .astore 4), (15, .iconst 1), (16, .ireturn), (17, .astore 4), (19, .iconst 2), (20, .ireturn), (21, .iconst 0), (22, .ireturn)]
def LcL_setPriority : List (Nat × Instr) := [(0, .aload_n 3), (1, .iconst 0), (2, .aload_n 0), (3, .iload_n 1), (4, .iload_n 2), (5, .invokevirtual 76), (8, .i2l), (9, .lastore), (10, .goto 11), (13, .astore 4), (15, .iconst 1), (16, .ireturn), (17, .astore 4), (19, .iconst 2), (20, .ireturn), (21, .iconst 0), (22, .ireturn)]
def LcL_go : List (Nat × Instr) := [(0, .aload_n 2), (1, .iconst 0), (2, .aload_n 0), (3, .iload_n 1), (4, .invokevirtual 79), (7, .i2l), (8, .lastore), (9, .goto 9), (12, .astore_n 3), (13, .iconst 1), (14, .ireturn), (15, .astore_n 3), (16, .iconst 2), (17, .ireturn), (18, .iconst 0), (19, .ireturn)]
def LcL_goTo : List (Nat × Instr) := [(0, .aload_n 3), (1, .iconst 0), (2, .aload_n 0), (3, .iload_n 1), (4, .iload_n 2), (5, .invokevirtual 82), (8, .i2l), (9, .lastore), (10, .goto 7), (13, .astore 4), (15, .iconst 1), (16, .ireturn), (17, .iconst 0), (18, .ireturn)]
def LcL_release : List (Nat × Instr) := [(0, .aload_n 2), (1, .iconst 0), (2, .aload_n 0), (3, .iload_n 1), (4, .invokevirtual 85), (7, .i2l), (8, .lastore), (9, .goto 9), (12, .astore_n 3), (13, .iconst 1), (14, .ireturn), (15, .astore_n 3), (16, .iconst 2), (17, .ireturn), (18, .iconst 0), (19, .ireturn)]
def LcL_update : List (Nat × Instr) := [(0, .aload_n 2), (1, .iconst 0), (2, .aload_n 0), (3, .iload_n 1), (4, .invokevirtual 88), (7, .i2l), (8, .lastore), (9, .goto 9), (12, .astore_n 3), (13, .iconst 1), (14, .ireturn), (15, .astore_n 3), (16, .iconst 2), (17, .ireturn), (18, .iconst 0), (19, .ireturn)]
def LcL_pass : List (Nat × Instr) := [(0, .aload_n 2), (1, .iconst 0), (2, .aload_n 0), (3, .iload_n 1), (4, .invokevirtual 91), (7, .i2l), (8, .lastore), (9, .goto 9), (12, .astore_n 3), (13, .iconst 1), (14, .ireturn), (15, .astore_n 3), (16, .iconst 2), (17, .ireturn), (18, .iconst 0), (19, .ireturn)]
def LcL_code : List (Nat × Instr) := [(0, .aload_n 2), (1, .iconst 0), (2, .aload_n 0), (3, .iload_n 1), (4, .invokevirtual 94), (7, .i2l), (8, .lastore), (9, .goto 6), (12, .astore_n 3), (13, .iconst 1), (14, .ireturn), (15, .iconst 0), (16, .ireturn)]
def LcL_addEffect : List (Nat × Instr) := [(0, .aload 7), (2, .iconst 0), (3, .aload_n 0), (4, .iload_n 1), (5, .iload_n 2), (6, .iload_n 3), (7, .iload 4), (9, .iload 5), (11, .iload 6), (13, .invokevirtual 97), (16, .i2l), (17, .lastore), (18, .goto 15), (21, .astore 8), (23, .iconst 1), (24, .ireturn), (25, .astore 8), (27, .iconst 2), (28, .ireturn), (29, .astore 8), (31, .iconst 3), (32, .ireturn), (33, .iconst 0), (34, .ireturn)]
def LcL_start : List (Nat × Instr) := [(0, .aload_n 2), (1, .iconst 0), (2, .aload_n 0), (3, .iload_n 1), (4, .invokevirtual 101), (7, .i2l), (8, .lastore), (9, .goto 9), (12, .astore_n 3), (13, .iconst 1), (14, .ireturn), (15, .astore_n 3), (16, .iconst 2), (17, .ireturn), (18, .iconst 0), (19, .ireturn)]
def LcL_stop : List (Nat × Instr) := [(0, .aload_n 2), (1, .iconst 0), (2, .aload_n 0), (3, .iload_n 1), (4, .invokevirtual 104), (7, .i2l), (8, .lastore), (9, .goto 9), (12, .astore_n 3), (13, .iconst 1), (14, .ireturn), (15, .astore_n 3), (16, .iconst 2), (17, .ireturn), (18, .iconst 0), (19, .ireturn)]
def LcL_output : List (Nat × Instr) := [(0, .aload_n 3), (1, .iconst 0), (2, .aload_n 0), (3, .iload_n 1), (4, .iload_n 2), (5, .invokevirtual 107), (8, .i2l), (9, .lastore), (10, .goto 11), (13, .astore 4), (15, .iconst 1), (16, .ireturn), (17, .astore 4), (19, .iconst 2), (20, .ireturn), (21, .iconst 0), (22, .ireturn)]
def LcL_outputBits : List (Nat × Instr) := [(0, .aload_n 3), (1, .iconst 0), (2, .aload_n 0), (3, .iload_n 1), (4, .iload_n 2), (5, .invokevirtual 110), (8, .i2l), (9, .lastore), (10, .goto 11), (13, .astore 4), (15, .iconst 1), (16, .ireturn), (17, .astore 4), (19, .iconst 2), (20, .ireturn), (21, .iconst 0), (22, .ireturn)]
def LcL_line : List (Nat × Instr) := [(0, .aload_n 2), (1, .iconst 0), (2, .aload_n 0), (3, .iload_n 1), (4, .invokevirtual 113), (7, .i2l), (8, .lastore), (9, .goto 6), (12, .astore_n 3), (13, .iconst 1), (14, .ireturn), (15, .iconst 0), (16, .ireturn)]
def LcL_decides : List (Nat × Instr) := [(0, .aload_n 3), (1, .iconst 0), (2, .aload_n 0), (3, .iload_n 1), (4, .iload_n 2), (5, .invokevirtual 116), (8, .i2l), (9, .lastore), (10, .goto 15), (13, .astore 4), (15, .iconst 1), (16, .ireturn), (17, .astore 4), (19, .iconst 2), (20, .ireturn), (21, .astore 4), (23, .iconst 3), (24, .ireturn), (25, .iconst 0), (26, .ireturn)]
def LcL_valueIn : List (Nat × Instr) := [(0, .aload 4), (2, .iconst 0), (3, .aload_n 0), (4, .iload_n 1), (5, .iload_n 2), (6, .iload_n 3), (7, .invokevirtual 119), (10, .i2l), (11, .lastore), (12, .goto 15), (15, .astore 5), (17, .iconst 1), (18, .ireturn), (19, .astore 5), (21, .iconst 2), (22, .ireturn), (23, .astore 5), (25, .iconst 3), (26, .ireturn), (27, .iconst 0), (28, .ireturn)]
def LcL_tracked : List (Nat × Instr) := [(0, .aload 5), (2, .iconst 0), (3, .aload_n 0), (4, .iload_n 1), (5, .iload_n 2), (6, .iload_n 3), (7, .iload 4), (9, .invokevirtual 122), (12, .i2l), (13, .lastore), (14, .goto 15), (17, .astore 6), (19, .iconst 1), (20, .ireturn), (21, .astore 6), (23, .iconst 2), (24, .ireturn), (25, .astore 6), (27, .iconst 3), (28, .ireturn), (29, .iconst 0), (30, .ireturn)]
def LcL_source : List (Nat × Instr) := [(0, .aload 5), (2, .iconst 0), (3, .aload_n 0), (4, .iload_n 1), (5, .iload_n 2), (6, .iload_n 3), (7, .iload 4), (9, .invokevirtual 125), (12, .i2l), (13, .lastore), (14, .goto 15), (17, .astore 6), (19, .iconst 1), (20, .ireturn), (21, .astore 6), (23, .iconst 2), (24, .ireturn), (25, .astore 6), (27, .iconst 3), (28, .ireturn), (29, .iconst 0), (30, .ireturn)]
def LcL_paletteOf : List (Nat × Instr) := [(0, .aload 5), (2, .iconst 0), (3, .aload_n 0), (4, .iload_n 1), (5, .iload_n 2), (6, .iload_n 3), (7, .iload 4), (9, .invokevirtual 128), (12, .i2l), (13, .lastore), (14, .goto 15), (17, .astore 6), (19, .iconst 1), (20, .ireturn), (21, .astore 6), (23, .iconst 2), (24, .ireturn), (25, .astore 6), (27, .iconst 3), (28, .ireturn), (29, .iconst 0), (30, .ireturn)]
def LcL_cueOf : List (Nat × Instr) := [(0, .aload_n 2), (1, .iconst 0), (2, .aload_n 0), (3, .iload_n 1), (4, .invokevirtual 131), (7, .i2l), (8, .lastore), (9, .goto 9), (12, .astore_n 3), (13, .iconst 1), (14, .ireturn), (15, .astore_n 3), (16, .iconst 2), (17, .ireturn), (18, .iconst 0), (19, .ireturn)]
def LcL_cues : List (Nat × Instr) := [(0, .aload_n 2), (1, .iconst 0), (2, .aload_n 0), (3, .iload_n 1), (4, .invokevirtual 134), (7, .i2l), (8, .lastore), (9, .goto 6), (12, .astore_n 3), (13, .iconst 1), (14, .ireturn), (15, .iconst 0), (16, .ireturn)]
def LcL_isFading : List (Nat × Instr) := [(0, .aload_n 2), (1, .iconst 0), (2, .aload_n 0), (3, .iload_n 1), (4, .invokevirtual 137), (7, .ifCond .eq 7), (10, .lconst 1), (11, .goto 4), (14, .lconst 0), (15, .lastore), (16, .goto 6), (19, .astore_n 3), (20, .iconst 1), (21, .ireturn), (22, .iconst 0), (23, .ireturn)]
def LcL_litShare : List (Nat × Instr) := [(0, .aload_n 1), (1, .iconst 0), (2, .aload_n 0), (3, .invokevirtual 141), (6, .f2d), (7, .dastore), (8, .goto 6), (11, .astore_n 2), (12, .iconst 1), (13, .ireturn), (14, .iconst 0), (15, .ireturn)]
def LcL_meanStored : List (Nat × Instr) := [(0, .aload_n 1), (1, .iconst 0), (2, .aload_n 0), (3, .invokevirtual 147), (6, .dastore), (7, .goto 6), (10, .astore_n 2), (11, .iconst 1), (12, .ireturn), (13, .iconst 0), (14, .ireturn)]
def LcL_law_0 : List (Nat × Instr) := [(0, .new 8), (3, .dup), (4, .invokespecial 151), (7, .astore_n 1), (8, .new 152), (11, .dup), (12, .invokespecial 154), (15, .astore_n 2), (16, .iconst 1), (17, .newarray .long), (19, .astore_n 3), (20, .iconst 1), (21, .newarray .double), (23, .astore 4), (25, .iconst 0), (26, .istore 5), (28, .iload 5), (30, .aload_n 0), (31, .arraylength), (32, .bipush 7), (34, .isub), (35, .if_icmp .gt 3057), (38, .aload_n 0), (39, .iload 5), (41, .iaload), (42, .bipush 63), (44, .iand), (45, .tableswitch 3041 0 43 #[191, 235, 303, 347, 415, 483, 551, 631, 699, 791, 859, 872, 928, 1020, 1100, 1180, 1260, 1363, 1431, 1499, 1555, 1623, 1679, 1735, 1791, 1847, 1967, 2023, 2079, 2147, 2215, 2271, 2339, 2419, 2511, 2603, 2695, 2751, 2807, 2870, 2883, 2897, 2963, 3028]), (236, .aload_n 1), (237, .aload_n 3), (238, .invokestatic 155), (241, .istore 6), (243, .aload_n 2), (244, .invokevirtual 160), (247, .istore 7), (249, .aload_n 2), (250, .invokevirtual 161), (253, .iload 6), (255, .if_icmp .eq 5), (258, .iconst 0), (259, .ireturn), (260, .iload 6), (262, .ifCond .ne 15), (265, .aload_n 3), (266, .iconst 0), (267, .laload), (268, .iload 7), (270, .i2l), (271, .lcmp), (272, .ifCond .eq 5), (275, .iconst 0), (276, .ireturn), (277, .goto 2809), (280, .aload_n 1), (281, .aload_n 0), (282, .iload 5), (284, .iconst 1), (285, .iadd), (286, .iaload), (287, .aload_n 0), (288, .iload 5), (290, .iconst 2), (291, .iadd), (292, .iaload), (293, .aload_n 3), (294, .invokestatic 164), (297, .istore 6), (299, .aload_n 2), (300, .aload_n 0), (301, .iload 5), (303, .iconst 1), (304, .iadd), (305, .iaload), (306, .aload_n 0), (307, .iload 5), (309, .iconst 2), (310, .iadd), (311, .iaload), (312, .invokevirtual 167), (315, .istore 7), (317, .aload_n 2), (318, .invokevirtual 161), (321, .iload 6), (323, .if_icmp .eq 5), (326, .iconst 0), (327, .ireturn), (328, .iload 6), (330, .ifCond .ne 15), (333, .aload_n 3), (334, .iconst 0), (335, .laload), (336, .iload 7), (338, .i2l), (339, .lcmp), (340, .ifCond .eq 5), (343, .iconst 0), (344, .ireturn), (345, .goto 2741), (348, .aload_n 1), (349, .aload_n 3), (350, .invokestatic 168), (353, .istore 6), (355, .aload_n 2), (356, .invokevirtual 170), (359, .istore 7), (361, .aload_n 2), (362, .invokevirtual 161), (365, .iload 6), (367, .if_icmp .eq 5), (370, .iconst 0), (371, .ireturn), (372, .iload 6), (374, .ifCond .ne 15), (377, .aload_n 3), (378, .iconst 0), (379, .laload), (380, .iload 7), (382, .i2l), (383, .lcmp), (384, .ifCond .eq 5), (387, .iconst 0), (388, .ireturn), (389, .goto 2697), (392, .aload_n 1), (393, .aload_n 0), (394, .iload 5), (396, .iconst 1), (397, .iadd), (398, .iaload), (399, .aload_n 0), (400, .iload 5), (402, .iconst 2), (403, .iadd), (404, .iaload), (405, .aload_n 3), (406, .invokestatic 171), (409, .istore 6), (411, .aload_n 2), (412, .aload_n 0), (413, .iload 5), (415, .iconst 1), (416, .iadd), (417, .iaload), (418, .aload_n 0), (419, .iload 5), (421, .iconst 2), (422, .iadd), (423, .iaload), (424, .invokevirtual 173), (427, .istore 7), (429, .aload_n 2), (430, .invokevirtual 161), (433, .iload 6), (435, .if_icmp .eq 5), (438, .iconst 0), (439, .ireturn), (440, .iload 6), (442, .ifCond .ne 15), (445, .aload_n 3), (446, .iconst 0), (447, .laload), (448, .iload 7), (450, .i2l), (451, .lcmp), (452, .ifCond .eq 5), (455, .iconst 0), (456, .ireturn), (457, .goto 2629), (460, .aload_n 1), (461, .aload_n 0), (462, .iload 5), (464, .iconst 1), (465, .iadd), (466, .iaload), (467, .aload_n 0), (468, .iload 5), (470, .iconst 2), (471, .iadd), (472, .iaload), (473, .aload_n 3), (474, .invokestatic 174), (477, .istore 6), (479, .aload_n 2), (480, .aload_n 0), (481, .iload 5), (483, .iconst 1), (484, .iadd), (485, .iaload), (486, .aload_n 0), (487, .iload 5), (489, .iconst 2), (490, .iadd), (491, .iaload), (492, .invokevirtual 176), (495, .istore 7), (497, .aload_n 2), (498, .invokevirtual 161), (501, .iload 6), (503, .if_icmp .eq 5), (506, .iconst 0)]
def LcL_law_1 : List (Nat × Instr) := [(507, .ireturn), (508, .iload 6), (510, .ifCond .ne 15), (513, .aload_n 3), (514, .iconst 0), (515, .laload), (516, .iload 7), (518, .i2l), (519, .lcmp), (520, .ifCond .eq 5), (523, .iconst 0), (524, .ireturn), (525, .goto 2561), (528, .aload_n 1), (529, .aload_n 0), (530, .iload 5), (532, .iconst 1), (533, .iadd), (534, .iaload), (535, .aload_n 0), (536, .iload 5), (538, .iconst 2), (539, .iadd), (540, .iaload), (541, .aload_n 3), (542, .invokestatic 177), (545, .istore 6), (547, .aload_n 2), (548, .aload_n 0), (549, .iload 5), (551, .iconst 1), (552, .iadd), (553, .iaload), (554, .aload_n 0), (555, .iload 5), (557, .iconst 2), (558, .iadd), (559, .iaload), (560, .invokevirtual 179), (563, .istore 7), (565, .aload_n 2), (566, .invokevirtual 161), (569, .iload 6), (571, .if_icmp .eq 5), (574, .iconst 0), (575, .ireturn), (576, .iload 6), (578, .ifCond .ne 15), (581, .aload_n 3), (582, .iconst 0), (583, .laload), (584, .iload 7), (586, .i2l), (587, .lcmp), (588, .ifCond .eq 5), (591, .iconst 0), (592, .ireturn), (593, .goto 2493), (596, .aload_n 1), (597, .aload_n 0), (598, .iload 5), (600, .iconst 1), (601, .iadd), (602, .iaload), (603, .aload_n 0), (604, .iload 5), (606, .iconst 2), (607, .iadd), (608, .iaload), (609, .aload_n 0), (610, .iload 5), (612, .iconst 3), (613, .iadd), (614, .iaload), (615, .aload_n 3), (616, .invokestatic 180), (619, .istore 6), (621, .aload_n 2), (622, .aload_n 0), (623, .iload 5), (625, .iconst 1), (626, .iadd), (627, .iaload), (628, .aload_n 0), (629, .iload 5), (631, .iconst 2), (632, .iadd), (633, .iaload), (634, .aload_n 0), (635, .iload 5), (637, .iconst 3), (638, .iadd), (639, .iaload), (640, .invokevirtual 183), (643, .istore 7), (645, .aload_n 2), (646, .invokevirtual 161), (649, .iload 6), (651, .if_icmp .eq 5), (654, .iconst 0), (655, .ireturn), (656, .iload 6), (658, .ifCond .ne 15), (661, .aload_n 3), (662, .iconst 0), (663, .laload), (664, .iload 7), (666, .i2l), (667, .lcmp), (668, .ifCond .eq 5), (671, .iconst 0), (672, .ireturn), (673, .goto 2413), (676, .aload_n 1), (677, .aload_n 0), (678, .iload 5), (680, .iconst 1), (681, .iadd), (682, .iaload), (683, .aload_n 0), (684, .iload 5), (686, .iconst 2), (687, .iadd), (688, .iaload), (689, .aload_n 3), (690, .invokestatic 184), (693, .istore 6), (695, .aload_n 2), (696, .aload_n 0), (697, .iload 5), (699, .iconst 1), (700, .iadd), (701, .iaload), (702, .aload_n 0), (703, .iload 5), (705, .iconst 2), (706, .iadd), (707, .iaload), (708, .invokevirtual 186), (711, .istore 7), (713, .aload_n 2), (714, .invokevirtual 161), (717, .iload 6), (719, .if_icmp .eq 5), (722, .iconst 0), (723, .ireturn), (724, .iload 6), (726, .ifCond .ne 15), (729, .aload_n 3), (730, .iconst 0), (731, .laload), (732, .iload 7), (734, .i2l), (735, .lcmp), (736, .ifCond .eq 5), (739, .iconst 0), (740, .ireturn), (741, .goto 2345), (744, .aload_n 1), (745, .aload_n 0), (746, .iload 5), (748, .iconst 1), (749, .iadd), (750, .iaload), (751, .aload_n 0), (752, .iload 5), (754, .iconst 2), (755, .iadd), (756, .iaload), (757, .aload_n 0), (758, .iload 5), (760, .iconst 3), (761, .iadd), (762, .iaload), (763, .aload_n 0), (764, .iload 5), (766, .iconst 4), (767, .iadd), (768, .iaload), (769, .aload_n 3), (770, .invokestatic 187), (773, .istore 6), (775, .aload_n 2), (776, .aload_n 0), (777, .iload 5), (779, .iconst 1), (780, .iadd), (781, .iaload), (782, .aload_n 0), (783, .iload 5), (785, .iconst 2), (786, .iadd), (787, .iaload), (788, .aload_n 0), (789, .iload 5), (791, .iconst 3), (792, .iadd), (793, .iaload), (794, .aload_n 0), (795, .iload 5)]
def LcL_law_2 : List (Nat × Instr) := [(797, .iconst 4), (798, .iadd), (799, .iaload), (800, .invokevirtual 190), (803, .istore 7), (805, .aload_n 2), (806, .invokevirtual 161), (809, .iload 6), (811, .if_icmp .eq 5), (814, .iconst 0), (815, .ireturn), (816, .iload 6), (818, .ifCond .ne 15), (821, .aload_n 3), (822, .iconst 0), (823, .laload), (824, .iload 7), (826, .i2l), (827, .lcmp), (828, .ifCond .eq 5), (831, .iconst 0), (832, .ireturn), (833, .goto 2253), (836, .aload_n 1), (837, .aload_n 0), (838, .iload 5), (840, .iconst 1), (841, .iadd), (842, .iaload), (843, .aload_n 0), (844, .iload 5), (846, .iconst 2), (847, .iadd), (848, .iaload), (849, .aload_n 3), (850, .invokestatic 191), (853, .istore 6), (855, .aload_n 2), (856, .aload_n 0), (857, .iload 5), (859, .iconst 1), (860, .iadd), (861, .iaload), (862, .aload_n 0), (863, .iload 5), (865, .iconst 2), (866, .iadd), (867, .iaload), (868, .invokevirtual 193), (871, .istore 7), (873, .aload_n 2), (874, .invokevirtual 161), (877, .iload 6), (879, .if_icmp .eq 5), (882, .iconst 0), (883, .ireturn), (884, .iload 6), (886, .ifCond .ne 15), (889, .aload_n 3), (890, .iconst 0), (891, .laload), (892, .iload 7), (894, .i2l), (895, .lcmp), (896, .ifCond .eq 5), (899, .iconst 0), (900, .ireturn), (901, .goto 2185), (904, .aload_n 1), (905, .invokevirtual 194), (908, .aload_n 2), (909, .invokevirtual 197), (912, .if_icmp .eq 2174), (915, .iconst 0), (916, .ireturn), (917, .aload_n 1), (918, .aload_n 0), (919, .iload 5), (921, .iconst 1), (922, .iadd), (923, .iaload), (924, .aload_n 3), (925, .invokestatic 198), (928, .istore 6), (930, .aload_n 2), (931, .aload_n 0), (932, .iload 5), (934, .iconst 1), (935, .iadd), (936, .iaload), (937, .invokevirtual 201), (940, .istore 7), (942, .aload_n 2), (943, .invokevirtual 161), (946, .iload 6), (948, .if_icmp .eq 5), (951, .iconst 0), (952, .ireturn), (953, .iload 6), (955, .ifCond .ne 15), (958, .aload_n 3), (959, .iconst 0), (960, .laload), (961, .iload 7), (963, .i2l), (964, .lcmp), (965, .ifCond .eq 5), (968, .iconst 0), (969, .ireturn), (970, .goto 2116), (973, .aload_n 1), (974, .aload_n 0), (975, .iload 5), (977, .iconst 1), (978, .iadd), (979, .iaload), (980, .aload_n 0), (981, .iload 5), (983, .iconst 2), (984, .iadd), (985, .iaload), (986, .aload_n 0), (987, .iload 5), (989, .iconst 3), (990, .iadd), (991, .iaload), (992, .aload_n 0), (993, .iload 5), (995, .iconst 4), (996, .iadd), (997, .iaload), (998, .aload_n 3), (999, .invokestatic 202), (1002, .istore 6), (1004, .aload_n 2), (1005, .aload_n 0), (1006, .iload 5), (1008, .iconst 1), (1009, .iadd), (1010, .iaload), (1011, .aload_n 0), (1012, .iload 5), (1014, .iconst 2), (1015, .iadd), (1016, .iaload), (1017, .aload_n 0), (1018, .iload 5), (1020, .iconst 3), (1021, .iadd), (1022, .iaload), (1023, .aload_n 0), (1024, .iload 5), (1026, .iconst 4), (1027, .iadd), (1028, .iaload), (1029, .invokevirtual 204), (1032, .istore 7), (1034, .aload_n 2), (1035, .invokevirtual 161), (1038, .iload 6), (1040, .if_icmp .eq 5), (1043, .iconst 0), (1044, .ireturn), (1045, .iload 6), (1047, .ifCond .ne 15), (1050, .aload_n 3), (1051, .iconst 0), (1052, .laload), (1053, .iload 7), (1055, .i2l), (1056, .lcmp), (1057, .ifCond .eq 5), (1060, .iconst 0), (1061, .ireturn), (1062, .goto 2024), (1065, .aload_n 1), (1066, .aload_n 0), (1067, .iload 5), (1069, .iconst 1), (1070, .iadd), (1071, .iaload), (1072, .aload_n 0), (1073, .iload 5), (1075, .iconst 2), (1076, .iadd), (1077, .iaload), (1078, .aload_n 0), (1079, .iload 5), (1081, .iconst 3), (1082, .iadd), (1083, .iaload), (1084, .aload_n 3), (1085, .invokestatic 205), (1088, .istore 6), (1090, .aload_n 2), (1091, .aload_n 0), (1092, .iload 5), (1094, .iconst 1), (1095, .iadd), (1096, .iaload)]
def LcL_law_3 : List (Nat × Instr) := [(1097, .aload_n 0), (1098, .iload 5), (1100, .iconst 2), (1101, .iadd), (1102, .iaload), (1103, .aload_n 0), (1104, .iload 5), (1106, .iconst 3), (1107, .iadd), (1108, .iaload), (1109, .invokevirtual 207), (1112, .istore 7), (1114, .aload_n 2), (1115, .invokevirtual 161), (1118, .iload 6), (1120, .if_icmp .eq 5), (1123, .iconst 0), (1124, .ireturn), (1125, .iload 6), (1127, .ifCond .ne 15), (1130, .aload_n 3), (1131, .iconst 0), (1132, .laload), (1133, .iload 7), (1135, .i2l), (1136, .lcmp), (1137, .ifCond .eq 5), (1140, .iconst 0), (1141, .ireturn), (1142, .goto 1944), (1145, .aload_n 1), (1146, .aload_n 0), (1147, .iload 5), (1149, .iconst 1), (1150, .iadd), (1151, .iaload), (1152, .aload_n 0), (1153, .iload 5), (1155, .iconst 2), (1156, .iadd), (1157, .iaload), (1158, .aload_n 0), (1159, .iload 5), (1161, .iconst 3), (1162, .iadd), (1163, .iaload), (1164, .aload_n 3), (1165, .invokestatic 208), (1168, .istore 6), (1170, .aload_n 2), (1171, .aload_n 0), (1172, .iload 5), (1174, .iconst 1), (1175, .iadd), (1176, .iaload), (1177, .aload_n 0), (1178, .iload 5), (1180, .iconst 2), (1181, .iadd), (1182, .iaload), (1183, .aload_n 0), (1184, .iload 5), (1186, .iconst 3), (1187, .iadd), (1188, .iaload), (1189, .invokevirtual 210), (1192, .istore 7), (1194, .aload_n 2), (1195, .invokevirtual 161), (1198, .iload 6), (1200, .if_icmp .eq 5), (1203, .iconst 0), (1204, .ireturn), (1205, .iload 6), (1207, .ifCond .ne 15), (1210, .aload_n 3), (1211, .iconst 0), (1212, .laload), (1213, .iload 7), (1215, .i2l), (1216, .lcmp), (1217, .ifCond .eq 5), (1220, .iconst 0), (1221, .ireturn), (1222, .goto 1864), (1225, .aload_n 1), (1226, .aload_n 0), (1227, .iload 5), (1229, .iconst 1), (1230, .iadd), (1231, .iaload), (1232, .aload_n 0), (1233, .iload 5), (1235, .iconst 2), (1236, .iadd), (1237, .iaload), (1238, .aload_n 0), (1239, .iload 5), (1241, .iconst 3), (1242, .iadd), (1243, .iaload), (1244, .aload_n 3), (1245, .invokestatic 211), (1248, .istore 6), (1250, .aload_n 2), (1251, .aload_n 0), (1252, .iload 5), (1254, .iconst 1), (1255, .iadd), (1256, .iaload), (1257, .aload_n 0), (1258, .iload 5), (1260, .iconst 2), (1261, .iadd), (1262, .iaload), (1263, .aload_n 0), (1264, .iload 5), (1266, .iconst 3), (1267, .iadd), (1268, .iaload), (1269, .invokevirtual 213), (1272, .istore 7), (1274, .aload_n 2), (1275, .invokevirtual 161), (1278, .iload 6), (1280, .if_icmp .eq 5), (1283, .iconst 0), (1284, .ireturn), (1285, .iload 6), (1287, .ifCond .ne 15), (1290, .aload_n 3), (1291, .iconst 0), (1292, .laload), (1293, .iload 7), (1295, .i2l), (1296, .lcmp), (1297, .ifCond .eq 5), (1300, .iconst 0), (1301, .ireturn), (1302, .goto 1784), (1305, .aload_n 1), (1306, .aload_n 0), (1307, .iload 5), (1309, .iconst 1), (1310, .iadd), (1311, .iaload), (1312, .aload_n 0), (1313, .iload 5), (1315, .iconst 2), (1316, .iadd), (1317, .iaload), (1318, .aload_n 0), (1319, .iload 5), (1321, .iconst 3), (1322, .iadd), (1323, .iaload), (1324, .ifCond .eq 7), (1327, .iconst 1), (1328, .goto 4), (1331, .iconst 0), (1332, .aload_n 3), (1333, .invokestatic 214), (1336, .istore 6), (1338, .aload_n 2), (1339, .aload_n 0), (1340, .iload 5), (1342, .iconst 1), (1343, .iadd), (1344, .iaload), (1345, .aload_n 0), (1346, .iload 5), (1348, .iconst 2), (1349, .iadd), (1350, .iaload), (1351, .aload_n 0), (1352, .iload 5), (1354, .iconst 3), (1355, .iadd), (1356, .iaload), (1357, .ifCond .eq 7), (1360, .iconst 1), (1361, .goto 4), (1364, .iconst 0), (1365, .invokevirtual 217), (1368, .istore 7), (1370, .aload_n 2), (1371, .invokevirtual 161), (1374, .iload 6), (1376, .if_icmp .eq 5), (1379, .iconst 0), (1380, .ireturn), (1381, .iload 6), (1383, .ifCond .ne 22), (1386, .aload_n 3), (1387, .iconst 0), (1388, .laload), (1389, .iload 7), (1391, .ifCond .eq 7), (1394, .lconst 1), (1395, .goto 4)]
def LcL_law_4 : List (Nat × Instr) := [(1398, .lconst 0), (1399, .lcmp), (1400, .ifCond .eq 5), (1403, .iconst 0), (1404, .ireturn), (1405, .goto 1681), (1408, .aload_n 1), (1409, .aload_n 0), (1410, .iload 5), (1412, .iconst 1), (1413, .iadd), (1414, .iaload), (1415, .aload_n 0), (1416, .iload 5), (1418, .iconst 2), (1419, .iadd), (1420, .iaload), (1421, .aload_n 3), (1422, .invokestatic 218), (1425, .istore 6), (1427, .aload_n 2), (1428, .aload_n 0), (1429, .iload 5), (1431, .iconst 1), (1432, .iadd), (1433, .iaload), (1434, .aload_n 0), (1435, .iload 5), (1437, .iconst 2), (1438, .iadd), (1439, .iaload), (1440, .invokevirtual 220), (1443, .istore 7), (1445, .aload_n 2), (1446, .invokevirtual 161), (1449, .iload 6), (1451, .if_icmp .eq 5), (1454, .iconst 0), (1455, .ireturn), (1456, .iload 6), (1458, .ifCond .ne 15), (1461, .aload_n 3), (1462, .iconst 0), (1463, .laload), (1464, .iload 7), (1466, .i2l), (1467, .lcmp), (1468, .ifCond .eq 5), (1471, .iconst 0), (1472, .ireturn), (1473, .goto 1613), (1476, .aload_n 1), (1477, .aload_n 0), (1478, .iload 5), (1480, .iconst 1), (1481, .iadd), (1482, .iaload), (1483, .aload_n 0), (1484, .iload 5), (1486, .iconst 2), (1487, .iadd), (1488, .iaload), (1489, .aload_n 3), (1490, .invokestatic 221), (1493, .istore 6), (1495, .aload_n 2), (1496, .aload_n 0), (1497, .iload 5), (1499, .iconst 1), (1500, .iadd), (1501, .iaload), (1502, .aload_n 0), (1503, .iload 5), (1505, .iconst 2), (1506, .iadd), (1507, .iaload), (1508, .invokevirtual 223), (1511, .istore 7), (1513, .aload_n 2), (1514, .invokevirtual 161), (1517, .iload 6), (1519, .if_icmp .eq 5), (1522, .iconst 0), (1523, .ireturn), (1524, .iload 6), (1526, .ifCond .ne 15), (1529, .aload_n 3), (1530, .iconst 0), (1531, .laload), (1532, .iload 7), (1534, .i2l), (1535, .lcmp), (1536, .ifCond .eq 5), (1539, .iconst 0), (1540, .ireturn), (1541, .goto 1545), (1544, .aload_n 1), (1545, .aload_n 0), (1546, .iload 5), (1548, .iconst 1), (1549, .iadd), (1550, .iaload), (1551, .aload_n 3), (1552, .invokestatic 224), (1555, .istore 6), (1557, .aload_n 2), (1558, .aload_n 0), (1559, .iload 5), (1561, .iconst 1), (1562, .iadd), (1563, .iaload), (1564, .invokevirtual 226), (1567, .istore 7), (1569, .aload_n 2), (1570, .invokevirtual 161), (1573, .iload 6), (1575, .if_icmp .eq 5), (1578, .iconst 0), (1579, .ireturn), (1580, .iload 6), (1582, .ifCond .ne 15), (1585, .aload_n 3), (1586, .iconst 0), (1587, .laload), (1588, .iload 7), (1590, .i2l), (1591, .lcmp), (1592, .ifCond .eq 5), (1595, .iconst 0), (1596, .ireturn), (1597, .goto 1489), (1600, .aload_n 1), (1601, .aload_n 0), (1602, .iload 5), (1604, .iconst 1), (1605, .iadd), (1606, .iaload), (1607, .aload_n 0), (1608, .iload 5), (1610, .iconst 2), (1611, .iadd), (1612, .iaload), (1613, .aload_n 3), (1614, .invokestatic 227), (1617, .istore 6), (1619, .aload_n 2), (1620, .aload_n 0), (1621, .iload 5), (1623, .iconst 1), (1624, .iadd), (1625, .iaload), (1626, .aload_n 0), (1627, .iload 5), (1629, .iconst 2), (1630, .iadd), (1631, .iaload), (1632, .invokevirtual 229), (1635, .istore 7), (1637, .aload_n 2), (1638, .invokevirtual 161), (1641, .iload 6), (1643, .if_icmp .eq 5), (1646, .iconst 0), (1647, .ireturn), (1648, .iload 6), (1650, .ifCond .ne 15), (1653, .aload_n 3), (1654, .iconst 0), (1655, .laload), (1656, .iload 7), (1658, .i2l), (1659, .lcmp), (1660, .ifCond .eq 5), (1663, .iconst 0), (1664, .ireturn), (1665, .goto 1421), (1668, .aload_n 1), (1669, .aload_n 0), (1670, .iload 5), (1672, .iconst 1), (1673, .iadd), (1674, .iaload), (1675, .aload_n 3), (1676, .invokestatic 230), (1679, .istore 6), (1681, .aload_n 2), (1682, .aload_n 0), (1683, .iload 5), (1685, .iconst 1), (1686, .iadd), (1687, .iaload), (1688, .invokevirtual 232), (1691, .istore 7), (1693, .aload_n 2), (1694, .invokevirtual 161), (1697, .iload 6), (1699, .if_icmp .eq 5), (1702, .iconst 0), (1703, .ireturn), (1704, .iload 6)]
def LcL_law_5 : List (Nat × Instr) := [(1706, .ifCond .ne 15), (1709, .aload_n 3), (1710, .iconst 0), (1711, .laload), (1712, .iload 7), (1714, .i2l), (1715, .lcmp), (1716, .ifCond .eq 5), (1719, .iconst 0), (1720, .ireturn), (1721, .goto 1365), (1724, .aload_n 1), (1725, .aload_n 0), (1726, .iload 5), (1728, .iconst 1), (1729, .iadd), (1730, .iaload), (1731, .aload_n 3), (1732, .invokestatic 233), (1735, .istore 6), (1737, .aload_n 2), (1738, .aload_n 0), (1739, .iload 5), (1741, .iconst 1), (1742, .iadd), (1743, .iaload), (1744, .invokevirtual 235), (1747, .istore 7), (1749, .aload_n 2), (1750, .invokevirtual 161), (1753, .iload 6), (1755, .if_icmp .eq 5), (1758, .iconst 0), (1759, .ireturn), (1760, .iload 6), (1762, .ifCond .ne 15), (1765, .aload_n 3), (1766, .iconst 0), (1767, .laload), (1768, .iload 7), (1770, .i2l), (1771, .lcmp), (1772, .ifCond .eq 5), (1775, .iconst 0), (1776, .ireturn), (1777, .goto 1309), (1780, .aload_n 1), (1781, .aload_n 0), (1782, .iload 5), (1784, .iconst 1), (1785, .iadd), (1786, .iaload), (1787, .aload_n 3), (1788, .invokestatic 236), (1791, .istore 6), (1793, .aload_n 2), (1794, .aload_n 0), (1795, .iload 5), (1797, .iconst 1), (1798, .iadd), (1799, .iaload), (1800, .invokevirtual 238), (1803, .istore 7), (1805, .aload_n 2), (1806, .invokevirtual 161), (1809, .iload 6), (1811, .if_icmp .eq 5), (1814, .iconst 0), (1815, .ireturn), (1816, .iload 6), (1818, .ifCond .ne 15), (1821, .aload_n 3), (1822, .iconst 0), (1823, .laload), (1824, .iload 7), (1826, .i2l), (1827, .lcmp), (1828, .ifCond .eq 5), (1831, .iconst 0), (1832, .ireturn), (1833, .goto 1253), (1836, .aload_n 1), (1837, .aload_n 0), (1838, .iload 5), (1840, .iconst 1), (1841, .iadd), (1842, .iaload), (1843, .aload_n 3), (1844, .invokestatic 239), (1847, .istore 6), (1849, .aload_n 2), (1850, .aload_n 0), (1851, .iload 5), (1853, .iconst 1), (1854, .iadd), (1855, .iaload), (1856, .invokevirtual 241), (1859, .istore 7), (1861, .aload_n 2), (1862, .invokevirtual 161), (1865, .iload 6), (1867, .if_icmp .eq 5), (1870, .iconst 0), (1871, .ireturn), (1872, .iload 6), (1874, .ifCond .ne 15), (1877, .aload_n 3), (1878, .iconst 0), (1879, .laload), (1880, .iload 7), (1882, .i2l), (1883, .lcmp), (1884, .ifCond .eq 5), (1887, .iconst 0), (1888, .ireturn), (1889, .goto 1197), (1892, .aload_n 1), (1893, .aload_n 0), (1894, .iload 5), (1896, .iconst 1), (1897, .iadd), (1898, .iaload), (1899, .aload_n 0), (1900, .iload 5), (1902, .iconst 2), (1903, .iadd), (1904, .iaload), (1905, .aload_n 0), (1906, .iload 5), (1908, .iconst 3), (1909, .iadd), (1910, .iaload), (1911, .i2c), (1912, .aload_n 0), (1913, .iload 5), (1915, .iconst 4), (1916, .iadd), (1917, .iaload), (1918, .aload_n 0), (1919, .iload 5), (1921, .iconst 5), (1922, .iadd), (1923, .iaload), (1924, .aload_n 0), (1925, .iload 5), (1927, .bipush 6), (1929, .iadd), (1930, .iaload), (1931, .aload_n 3), (1932, .invokestatic 242), (1935, .istore 6), (1937, .aload_n 2), (1938, .aload_n 0), (1939, .iload 5), (1941, .iconst 1), (1942, .iadd), (1943, .iaload), (1944, .aload_n 0), (1945, .iload 5), (1947, .iconst 2), (1948, .iadd), (1949, .iaload), (1950, .aload_n 0), (1951, .iload 5), (1953, .iconst 3), (1954, .iadd), (1955, .iaload), (1956, .i2c), (1957, .aload_n 0), (1958, .iload 5), (1960, .iconst 4), (1961, .iadd), (1962, .iaload), (1963, .aload_n 0), (1964, .iload 5), (1966, .iconst 5), (1967, .iadd), (1968, .iaload), (1969, .aload_n 0), (1970, .iload 5), (1972, .bipush 6), (1974, .iadd), (1975, .iaload), (1976, .invokevirtual 245), (1979, .istore 7), (1981, .aload_n 2), (1982, .invokevirtual 161), (1985, .iload 6), (1987, .if_icmp .eq 5), (1990, .iconst 0), (1991, .ireturn), (1992, .iload 6), (1994, .ifCond .ne 15), (1997, .aload_n 3), (1998, .iconst 0), (1999, .laload), (2000, .iload 7), (2002, .i2l), (2003, .lcmp), (2004, .ifCond .eq 5)]
def LcL_law_6 : List (Nat × Instr) := [(2007, .iconst 0), (2008, .ireturn), (2009, .goto 1077), (2012, .aload_n 1), (2013, .aload_n 0), (2014, .iload 5), (2016, .iconst 1), (2017, .iadd), (2018, .iaload), (2019, .aload_n 3), (2020, .invokestatic 246), (2023, .istore 6), (2025, .aload_n 2), (2026, .aload_n 0), (2027, .iload 5), (2029, .iconst 1), (2030, .iadd), (2031, .iaload), (2032, .invokevirtual 248), (2035, .istore 7), (2037, .aload_n 2), (2038, .invokevirtual 161), (2041, .iload 6), (2043, .if_icmp .eq 5), (2046, .iconst 0), (2047, .ireturn), (2048, .iload 6), (2050, .ifCond .ne 15), (2053, .aload_n 3), (2054, .iconst 0), (2055, .laload), (2056, .iload 7), (2058, .i2l), (2059, .lcmp), (2060, .ifCond .eq 5), (2063, .iconst 0), (2064, .ireturn), (2065, .goto 1021), (2068, .aload_n 1), (2069, .aload_n 0), (2070, .iload 5), (2072, .iconst 1), (2073, .iadd), (2074, .iaload), (2075, .aload_n 3), (2076, .invokestatic 249), (2079, .istore 6), (2081, .aload_n 2), (2082, .aload_n 0), (2083, .iload 5), (2085, .iconst 1), (2086, .iadd), (2087, .iaload), (2088, .invokevirtual 251), (2091, .istore 7), (2093, .aload_n 2), (2094, .invokevirtual 161), (2097, .iload 6), (2099, .if_icmp .eq 5), (2102, .iconst 0), (2103, .ireturn), (2104, .iload 6), (2106, .ifCond .ne 15), (2109, .aload_n 3), (2110, .iconst 0), (2111, .laload), (2112, .iload 7), (2114, .i2l), (2115, .lcmp), (2116, .ifCond .eq 5), (2119, .iconst 0), (2120, .ireturn), (2121, .goto 965), (2124, .aload_n 1), (2125, .aload_n 0), (2126, .iload 5), (2128, .iconst 1), (2129, .iadd), (2130, .iaload), (2131, .aload_n 0), (2132, .iload 5), (2134, .iconst 2), (2135, .iadd), (2136, .iaload), (2137, .aload_n 3), (2138, .invokestatic 252), (2141, .istore 6), (2143, .aload_n 2), (2144, .aload_n 0), (2145, .iload 5), (2147, .iconst 1), (2148, .iadd), (2149, .iaload), (2150, .aload_n 0), (2151, .iload 5), (2153, .iconst 2), (2154, .iadd), (2155, .iaload), (2156, .invokevirtual 254), (2159, .istore 7), (2161, .aload_n 2), (2162, .invokevirtual 161), (2165, .iload 6), (2167, .if_icmp .eq 5), (2170, .iconst 0), (2171, .ireturn), (2172, .iload 6), (2174, .ifCond .ne 15), (2177, .aload_n 3), (2178, .iconst 0), (2179, .laload), (2180, .iload 7), (2182, .i2l), (2183, .lcmp), (2184, .ifCond .eq 5), (2187, .iconst 0), (2188, .ireturn), (2189, .goto 897), (2192, .aload_n 1), (2193, .aload_n 0), (2194, .iload 5), (2196, .iconst 1), (2197, .iadd), (2198, .iaload), (2199, .aload_n 0), (2200, .iload 5), (2202, .iconst 2), (2203, .iadd), (2204, .iaload), (2205, .aload_n 3), (2206, .invokestatic 255), (2209, .istore 6), (2211, .aload_n 2), (2212, .aload_n 0), (2213, .iload 5), (2215, .iconst 1), (2216, .iadd), (2217, .iaload), (2218, .aload_n 0), (2219, .iload 5), (2221, .iconst 2), (2222, .iadd), (2223, .iaload), (2224, .invokevirtual 257), (2227, .istore 7), (2229, .aload_n 2), (2230, .invokevirtual 161), (2233, .iload 6), (2235, .if_icmp .eq 5), (2238, .iconst 0), (2239, .ireturn), (2240, .iload 6), (2242, .ifCond .ne 15), (2245, .aload_n 3), (2246, .iconst 0), (2247, .laload), (2248, .iload 7), (2250, .i2l), (2251, .lcmp), (2252, .ifCond .eq 5), (2255, .iconst 0), (2256, .ireturn), (2257, .goto 829), (2260, .aload_n 1), (2261, .aload_n 0), (2262, .iload 5), (2264, .iconst 1), (2265, .iadd), (2266, .iaload), (2267, .aload_n 3), (2268, .invokestatic 258), (2271, .istore 6), (2273, .aload_n 2), (2274, .aload_n 0), (2275, .iload 5), (2277, .iconst 1), (2278, .iadd), (2279, .iaload), (2280, .invokevirtual 260), (2283, .istore 7), (2285, .aload_n 2), (2286, .invokevirtual 161), (2289, .iload 6), (2291, .if_icmp .eq 5), (2294, .iconst 0), (2295, .ireturn), (2296, .iload 6), (2298, .ifCond .ne 15), (2301, .aload_n 3), (2302, .iconst 0), (2303, .laload), (2304, .iload 7), (2306, .i2l), (2307, .lcmp), (2308, .ifCond .eq 5), (2311, .iconst 0), (2312, .ireturn), (2313, .goto 773), (2316, .aload_n 1), (2317, .aload_n 0)]
def LcL_law_7 : List (Nat × Instr) := [(2318, .iload 5), (2320, .iconst 1), (2321, .iadd), (2322, .iaload), (2323, .aload_n 0), (2324, .iload 5), (2326, .iconst 2), (2327, .iadd), (2328, .iaload), (2329, .aload_n 3), (2330, .invokestatic 261), (2333, .istore 6), (2335, .aload_n 2), (2336, .aload_n 0), (2337, .iload 5), (2339, .iconst 1), (2340, .iadd), (2341, .iaload), (2342, .aload_n 0), (2343, .iload 5), (2345, .iconst 2), (2346, .iadd), (2347, .iaload), (2348, .invokevirtual 263), (2351, .istore 7), (2353, .aload_n 2), (2354, .invokevirtual 161), (2357, .iload 6), (2359, .if_icmp .eq 5), (2362, .iconst 0), (2363, .ireturn), (2364, .iload 6), (2366, .ifCond .ne 15), (2369, .aload_n 3), (2370, .iconst 0), (2371, .laload), (2372, .iload 7), (2374, .i2l), (2375, .lcmp), (2376, .ifCond .eq 5), (2379, .iconst 0), (2380, .ireturn), (2381, .goto 705), (2384, .aload_n 1), (2385, .aload_n 0), (2386, .iload 5), (2388, .iconst 1), (2389, .iadd), (2390, .iaload), (2391, .aload_n 0), (2392, .iload 5), (2394, .iconst 2), (2395, .iadd), (2396, .iaload), (2397, .aload_n 0), (2398, .iload 5), (2400, .iconst 3), (2401, .iadd), (2402, .iaload), (2403, .aload_n 3), (2404, .invokestatic 264), (2407, .istore 6), (2409, .aload_n 2), (2410, .aload_n 0), (2411, .iload 5), (2413, .iconst 1), (2414, .iadd), (2415, .iaload), (2416, .aload_n 0), (2417, .iload 5), (2419, .iconst 2), (2420, .iadd), (2421, .iaload), (2422, .aload_n 0), (2423, .iload 5), (2425, .iconst 3), (2426, .iadd), (2427, .iaload), (2428, .invokevirtual 266), (2431, .istore 7), (2433, .aload_n 2), (2434, .invokevirtual 161), (2437, .iload 6), (2439, .if_icmp .eq 5), (2442, .iconst 0), (2443, .ireturn), (2444, .iload 6), (2446, .ifCond .ne 15), (2449, .aload_n 3), (2450, .iconst 0), (2451, .laload), (2452, .iload 7), (2454, .i2l), (2455, .lcmp), (2456, .ifCond .eq 5), (2459, .iconst 0), (2460, .ireturn), (2461, .goto 625), (2464, .aload_n 1), (2465, .aload_n 0), (2466, .iload 5), (2468, .iconst 1), (2469, .iadd), (2470, .iaload), (2471, .aload_n 0), (2472, .iload 5), (2474, .iconst 2), (2475, .iadd), (2476, .iaload), (2477, .aload_n 0), (2478, .iload 5), (2480, .iconst 3), (2481, .iadd), (2482, .iaload), (2483, .aload_n 0), (2484, .iload 5), (2486, .iconst 4), (2487, .iadd), (2488, .iaload), (2489, .aload_n 3), (2490, .invokestatic 267), (2493, .istore 6), (2495, .aload_n 2), (2496, .aload_n 0), (2497, .iload 5), (2499, .iconst 1), (2500, .iadd), (2501, .iaload), (2502, .aload_n 0), (2503, .iload 5), (2505, .iconst 2), (2506, .iadd), (2507, .iaload), (2508, .aload_n 0), (2509, .iload 5), (2511, .iconst 3), (2512, .iadd), (2513, .iaload), (2514, .aload_n 0), (2515, .iload 5), (2517, .iconst 4), (2518, .iadd), (2519, .iaload), (2520, .invokevirtual 269), (2523, .istore 7), (2525, .aload_n 2), (2526, .invokevirtual 161), (2529, .iload 6), (2531, .if_icmp .eq 5), (2534, .iconst 0), (2535, .ireturn), (2536, .iload 6), (2538, .ifCond .ne 15), (2541, .aload_n 3), (2542, .iconst 0), (2543, .laload), (2544, .iload 7), (2546, .i2l), (2547, .lcmp), (2548, .ifCond .eq 5), (2551, .iconst 0), (2552, .ireturn), (2553, .goto 533), (2556, .aload_n 1), (2557, .aload_n 0), (2558, .iload 5), (2560, .iconst 1), (2561, .iadd), (2562, .iaload), (2563, .aload_n 0), (2564, .iload 5), (2566, .iconst 2), (2567, .iadd), (2568, .iaload), (2569, .aload_n 0), (2570, .iload 5), (2572, .iconst 3), (2573, .iadd), (2574, .iaload), (2575, .aload_n 0), (2576, .iload 5), (2578, .iconst 4), (2579, .iadd), (2580, .iaload), (2581, .aload_n 3), (2582, .invokestatic 270), (2585, .istore 6), (2587, .aload_n 2), (2588, .aload_n 0), (2589, .iload 5), (2591, .iconst 1), (2592, .iadd), (2593, .iaload), (2594, .aload_n 0), (2595, .iload 5), (2597, .iconst 2), (2598, .iadd), (2599, .iaload), (2600, .aload_n 0), (2601, .iload 5)]
def LcL_law_8 : List (Nat × Instr) := [(2603, .iconst 3), (2604, .iadd), (2605, .iaload), (2606, .aload_n 0), (2607, .iload 5), (2609, .iconst 4), (2610, .iadd), (2611, .iaload), (2612, .invokevirtual 272), (2615, .istore 7), (2617, .aload_n 2), (2618, .invokevirtual 161), (2621, .iload 6), (2623, .if_icmp .eq 5), (2626, .iconst 0), (2627, .ireturn), (2628, .iload 6), (2630, .ifCond .ne 15), (2633, .aload_n 3), (2634, .iconst 0), (2635, .laload), (2636, .iload 7), (2638, .i2l), (2639, .lcmp), (2640, .ifCond .eq 5), (2643, .iconst 0), (2644, .ireturn), (2645, .goto 441), (2648, .aload_n 1), (2649, .aload_n 0), (2650, .iload 5), (2652, .iconst 1), (2653, .iadd), (2654, .iaload), (2655, .aload_n 0), (2656, .iload 5), (2658, .iconst 2), (2659, .iadd), (2660, .iaload), (2661, .aload_n 0), (2662, .iload 5), (2664, .iconst 3), (2665, .iadd), (2666, .iaload), (2667, .aload_n 0), (2668, .iload 5), (2670, .iconst 4), (2671, .iadd), (2672, .iaload), (2673, .aload_n 3), (2674, .invokestatic 273), (2677, .istore 6), (2679, .aload_n 2), (2680, .aload_n 0), (2681, .iload 5), (2683, .iconst 1), (2684, .iadd), (2685, .iaload), (2686, .aload_n 0), (2687, .iload 5), (2689, .iconst 2), (2690, .iadd), (2691, .iaload), (2692, .aload_n 0), (2693, .iload 5), (2695, .iconst 3), (2696, .iadd), (2697, .iaload), (2698, .aload_n 0), (2699, .iload 5), (2701, .iconst 4), (2702, .iadd), (2703, .iaload), (2704, .invokevirtual 275), (2707, .istore 7), (2709, .aload_n 2), (2710, .invokevirtual 161), (2713, .iload 6), (2715, .if_icmp .eq 5), (2718, .iconst 0), (2719, .ireturn), (2720, .iload 6), (2722, .ifCond .ne 15), (2725, .aload_n 3), (2726, .iconst 0), (2727, .laload), (2728, .iload 7), (2730, .i2l), (2731, .lcmp), (2732, .ifCond .eq 5), (2735, .iconst 0), (2736, .ireturn), (2737, .goto 349), (2740, .aload_n 1), (2741, .aload_n 0), (2742, .iload 5), (2744, .iconst 1), (2745, .iadd), (2746, .iaload), (2747, .aload_n 3), (2748, .invokestatic 276), (2751, .istore 6), (2753, .aload_n 2), (2754, .aload_n 0), (2755, .iload 5), (2757, .iconst 1), (2758, .iadd), (2759, .iaload), (2760, .invokevirtual 278), (2763, .istore 7), (2765, .aload_n 2), (2766, .invokevirtual 161), (2769, .iload 6), (2771, .if_icmp .eq 5), (2774, .iconst 0), (2775, .ireturn), (2776, .iload 6), (2778, .ifCond .ne 15), (2781, .aload_n 3), (2782, .iconst 0), (2783, .laload), (2784, .iload 7), (2786, .i2l), (2787, .lcmp), (2788, .ifCond .eq 5), (2791, .iconst 0), (2792, .ireturn), (2793, .goto 293), (2796, .aload_n 1), (2797, .aload_n 0), (2798, .iload 5), (2800, .iconst 1), (2801, .iadd), (2802, .iaload), (2803, .aload_n 3), (2804, .invokestatic 279), (2807, .istore 6), (2809, .aload_n 2), (2810, .aload_n 0), (2811, .iload 5), (2813, .iconst 1), (2814, .iadd), (2815, .iaload), (2816, .invokevirtual 281), (2819, .istore 7), (2821, .aload_n 2), (2822, .invokevirtual 161), (2825, .iload 6), (2827, .if_icmp .eq 5), (2830, .iconst 0), (2831, .ireturn), (2832, .iload 6), (2834, .ifCond .ne 15), (2837, .aload_n 3), (2838, .iconst 0), (2839, .laload), (2840, .iload 7), (2842, .i2l), (2843, .lcmp), (2844, .ifCond .eq 5), (2847, .iconst 0), (2848, .ireturn), (2849, .goto 237), (2852, .aload_n 1), (2853, .aload_n 0), (2854, .iload 5), (2856, .iconst 1), (2857, .iadd), (2858, .iaload), (2859, .aload_n 3), (2860, .invokestatic 282), (2863, .istore 6), (2865, .aload_n 2), (2866, .aload_n 0), (2867, .iload 5), (2869, .iconst 1), (2870, .iadd), (2871, .iaload), (2872, .invokevirtual 284), (2875, .istore 7), (2877, .aload_n 2), (2878, .invokevirtual 161), (2881, .iload 6), (2883, .if_icmp .eq 5), (2886, .iconst 0), (2887, .ireturn), (2888, .iload 6), (2890, .ifCond .ne 22), (2893, .aload_n 3), (2894, .iconst 0), (2895, .laload), (2896, .iload 7), (2898, .ifCond .eq 7), (2901, .lconst 1), (2902, .goto 4), (2905, .lconst 0), (2906, .lcmp), (2907, .ifCond .eq 5), (2910, .iconst 0), (2911, .ireturn)]
def LcL_law_9 : List (Nat × Instr) := [(2912, .goto 174), (2915, .aload_n 1), (2916, .invokevirtual 285), (2919, .aload_n 2), (2920, .invokevirtual 288), (2923, .if_icmp .eq 163), (2926, .iconst 0), (2927, .ireturn), (2928, .aload_n 1), (2929, .invokevirtual 289), (2932, .aload_n 2), (2933, .invokevirtual 293), (2936, .lcmp), (2937, .ifCond .eq 149), (2940, .iconst 0), (2941, .ireturn), (2942, .aload_n 1), (2943, .aload 4), (2945, .invokestatic 294), (2948, .istore 6), (2950, .aload_n 2), (2951, .invokevirtual 297), (2954, .fstore 7), (2956, .aload_n 2), (2957, .invokevirtual 161), (2960, .iload 6), (2962, .if_icmp .eq 5), (2965, .iconst 0), (2966, .ireturn), (2967, .iload 6), (2969, .ifCond .ne 36), (2972, .aload 4), (2974, .iconst 0), (2975, .daload), (2976, .fload 7), (2978, .f2d), (2979, .dcmp .l), (2980, .ifCond .eq 25), (2983, .aload 4), (2985, .iconst 0), (2986, .daload), (2987, .aload 4), (2989, .iconst 0), (2990, .daload), (2991, .dcmp .l), (2992, .ifCond .eq 11), (2995, .fload 7), (2997, .fload 7), (2999, .fcmp .l), (3000, .ifCond .ne 5), (3003, .iconst 0), (3004, .ireturn), (3005, .goto 81), (3008, .aload_n 1), (3009, .aload 4), (3011, .invokestatic 298), (3014, .istore 6), (3016, .aload_n 2), (3017, .invokevirtual 300), (3020, .dstore 7), (3022, .aload_n 2), (3023, .invokevirtual 161), (3026, .iload 6), (3028, .if_icmp .eq 5), (3031, .iconst 0), (3032, .ireturn), (3033, .iload 6), (3035, .ifCond .ne 35), (3038, .aload 4), (3040, .iconst 0), (3041, .daload), (3042, .dload 7), (3044, .dcmp .l), (3045, .ifCond .eq 25), (3048, .aload 4), (3050, .iconst 0), (3051, .daload), (3052, .aload 4), (3054, .iconst 0), (3055, .daload), (3056, .dcmp .l), (3057, .ifCond .eq 11), (3060, .dload 7), (3062, .dload 7), (3064, .dcmp .l), (3065, .ifCond .ne 5), (3068, .iconst 0), (3069, .ireturn), (3070, .goto 16), (3073, .aload_n 1), (3074, .invokevirtual 301), (3077, .aload_n 2), (3078, .invokevirtual 305), (3081, .if_icmp .eq 5), (3084, .iconst 0), (3085, .ireturn), (3086, .iinc 5 7), (3089, .goto (-3061)), (3092, .iconst 1), (3093, .ireturn)]
def LcL_law : List (Nat × Instr) := LcL_law_0 ++ (LcL_law_1 ++ (LcL_law_2 ++ (LcL_law_3 ++ (LcL_law_4 ++ (LcL_law_5 ++ (LcL_law_6 ++ (LcL_law_7 ++ (LcL_law_8 ++ (LcL_law_9)))))))))
def codeT : List (List (Nat × Instr)) := [LcX0_init, LcX0_changeTimes, LcX0_changeFollow, LcX0_changeLink, LcX0_changeCode, LcX0_changeAssert, LcX1_init, LcX1_changeMaster, LcX1_changePriority, LcX1_sourceOf, LcX1_entryOf, LcX1_nextCue, LcX1_cueThatFollows, LcX1_cueForCode, LcX1_hasFade, LcX1_needsNewFade, LcX1_startFade, LcX1_fadeValue, LcX1_putOut, LcX1_hasOpenFade, LcX1_letGo, LcX1_storedInAll, LcX1_tracksAsGoneThrough, LcX2_init, LcX2_placeLamp, LcX2_meetsAnotherLamp, LcX2_moveLamp, LcX2_formGroup, LcX2_spreadOver, LcX2_cueAt, LcX2_storeCue, LcX2_advance, LcX2_begin, LcX2_updateList, LcX2_updateSlot, LcX2_goOn, LcX2_takeCode, LcX2_nextEffect, LcX2_runningEffects, LcX2_decider, LcX2_settled, LcX2_shown, LcX2_lineValue, LcX3_init, LcX3_describe, LcX3_runs, LcX3_wave, LcX4_init, LcX4_has, LcX4_put, LcX4_drop, LcX4_empty, LcX4_copy, LcX5_init, LcX5_placeOf, LcX5_join, LcX6_init, LcX6_mix, LcX6_change, LcX6_numberOf, LcX7_init, LcX7_addLamp, LcX7_patch, LcX7_addGroup, LcX7_addToGroup, LcX7_addPalette, LcX7_setPalette, LcX7_set, LcX7_point, LcX7_fan, LcX7_knockOut, LcX7_clear, LcX7_record, LcX7_setTimes, LcX7_setFollow, LcX7_setLink, LcX7_setCode, LcX7_setAssert, LcX7_setMaster, LcX7_setPriority, LcX7_go, LcX7_goTo, LcX7_release, LcX7_update, LcX7_pass, LcX7_code, LcX7_addEffect, LcX7_start, LcX7_stop, LcX7_output, LcX7_outputBits, LcX7_line, LcX7_decides, LcX7_valueIn, LcX7_tracked, LcX7_source, LcX7_paletteOf, LcX7_cueOf, LcX7_cues, LcX7_isFading, LcX7_time, LcX7_sum, LcX7_litShare, LcX7_meanStored, LcX7_isSound, LcX7_runEffect, LcX7_needLamp, LcX7_needAttribute, LcX7_needSlot, LcX7_needGroup, LcX7_needPalette, LcX7_needEffect, LcX7_needList, LcX7_needCue, LcX7_needPresentCue, LcX7_needEntry, LcX7_needRange, LcX7_slotOf, LcX7_isPalette, LcX7_bitsOf, LcX8_init, LcX8_thrown, LcX8_fails, LcX8_in, LcX8_isLamp, LcX8_isList, LcX8_isCue, LcX8_valueOf, LcX8_countProgrammer, LcX8_empties, LcX8_at, LcX8_sourceOf, LcX8_trackedIn, LcX8_valueOfFade, LcX8_decided, LcX8_memberAt, LcX8_effect, LcX8_put, LcX8_begins, LcX8_nextOf, LcX8_addLamp, LcX8_patch, LcX8_addGroup, LcX8_addToGroup, LcX8_isKind, LcX8_isByte, LcX8_addPalette, LcX8_setPalette, LcX8_set, LcX8_point, LcX8_fan, LcX8_knockOut, LcX8_clear, LcX8_record, LcX8_setTimes, LcX8_setFollow, LcX8_setLink, LcX8_setCode, LcX8_setAssert, LcX8_setMaster, LcX8_setPriority, LcX8_go, LcX8_goTo, LcX8_release, LcX8_update, LcX8_pass, LcX8_code, LcX8_addEffect, LcX8_countRunning, LcX8_start, LcX8_stop, LcX8_isSlot, LcX8_output, LcX8_outputBits, LcX8_lineValue, LcX8_line, LcX8_decides, LcX8_valueIn, LcX8_entryOf, LcX8_tracked, LcX8_source, LcX8_paletteOf, LcX8_cueOf, LcX8_cues, LcX8_isFading, LcX8_time, LcX8_sum, LcX8_litShare, LcX8_meanStored, LcX8_isSound, LcJxf58ca_isNaN_12338, LcJxf58ca_floatToIntBits_5c35a, LcL_addLamp, LcL_patch, LcL_addGroup, LcL_addToGroup, LcL_addPalette, LcL_setPalette, LcL_set, LcL_point, LcL_fan, LcL_knockOut, LcL_record, LcL_setTimes, LcL_setFollow, LcL_setLink, LcL_setCode, LcL_setAssert, LcL_setMaster, LcL_setPriority, LcL_go, LcL_goTo, LcL_release, LcL_update, LcL_pass, LcL_code, LcL_addEffect, LcL_start, LcL_stop, LcL_output, LcL_outputBits, LcL_line, LcL_decides, LcL_valueIn, LcL_tracked, LcL_source, LcL_paletteOf, LcL_cueOf, LcL_cues, LcL_isFading, LcL_litShare, LcL_meanStored, LcL_law]
abbrev MRow : Type := Nat × MethodName × ByteArray × Nat × Option FieldType × List (Nat × Nat × Nat × Nat)
def MX0_init : MRow := (0, yX0_init, cX0_init, 1, none, [])
def MX0_changeTimes : MRow := (0, yX0_changeTimes, cX0_changeTimes, 4, (some .int), [])
def MX0_changeFollow : MRow := (0, yX0_changeFollow, cX0_changeFollow, 3, (some .int), [])
def MX0_changeLink : MRow := (0, yX0_changeLink, cX0_changeLink, 3, (some .int), [])
def MX0_changeCode : MRow := (0, yX0_changeCode, cX0_changeCode, 3, (some .int), [])
def MX0_changeAssert : MRow := (0, yX0_changeAssert, cX0_changeAssert, 3, (some .boolean), [])
def MX1_init : MRow := (1, yX1_init, cX1_init, 2, none, [])
def MX1_changeMaster : MRow := (1, yX1_changeMaster, cX1_changeMaster, 3, (some .int), [])
def MX1_changePriority : MRow := (1, yX1_changePriority, cX1_changePriority, 3, (some .int), [])
def MX1_sourceOf : MRow := (1, yX1_sourceOf, cX1_sourceOf, 4, (some .int), [])
def MX1_entryOf : MRow := (1, yX1_entryOf, cX1_entryOf, 4, (some .int), [])
def MX1_nextCue : MRow := (1, yX1_nextCue, cX1_nextCue, 2, (some .int), [])
def MX1_cueThatFollows : MRow := (1, yX1_cueThatFollows, cX1_cueThatFollows, 2, (some .int), [])
def MX1_cueForCode : MRow := (1, yX1_cueForCode, cX1_cueForCode, 5, (some .int), [])
def MX1_hasFade : MRow := (1, yX1_hasFade, cX1_hasFade, 2, (some .boolean), [])
def MX1_needsNewFade : MRow := (1, yX1_needsNewFade, cX1_needsNewFade, 4, (some .boolean), [])
def MX1_startFade : MRow := (1, yX1_startFade, cX1_startFade, 6, none, [])
def MX1_fadeValue : MRow := (1, yX1_fadeValue, cX1_fadeValue, 7, (some .float), [])
def MX1_putOut : MRow := (1, yX1_putOut, cX1_putOut, 5, (some .float), [])
def MX1_hasOpenFade : MRow := (1, yX1_hasOpenFade, cX1_hasOpenFade, 4, (some .boolean), [])
def MX1_letGo : MRow := (1, yX1_letGo, cX1_letGo, 3, (some .int), [])
def MX1_storedInAll : MRow := (1, yX1_storedInAll, cX1_storedInAll, 3, (some .int), [])
def MX1_tracksAsGoneThrough : MRow := (1, yX1_tracksAsGoneThrough, cX1_tracksAsGoneThrough, 4, (some .boolean), [])
def MX2_init : MRow := (2, yX2_init, cX2_init, 2, none, [])
def MX2_placeLamp : MRow := (2, yX2_placeLamp, cX2_placeLamp, 1, (some .int), [])
def MX2_meetsAnotherLamp : MRow := (2, yX2_meetsAnotherLamp, cX2_meetsAnotherLamp, 5, (some .boolean), [])
def MX2_moveLamp : MRow := (2, yX2_moveLamp, cX2_moveLamp, 4, (some .int), [])
def MX2_formGroup : MRow := (2, yX2_formGroup, cX2_formGroup, 1, (some .int), [])
def MX2_spreadOver : MRow := (2, yX2_spreadOver, cX2_spreadOver, 9, (some .int), [])
def MX2_cueAt : MRow := (2, yX2_cueAt, cX2_cueAt, 3, (some (.object "Lampboard$Cue")), [])
def MX2_storeCue : MRow := (2, yX2_storeCue, cX2_storeCue, 3, (some .int), [])
def MX2_advance : MRow := (2, yX2_advance, cX2_advance, 3, (some .int), [])
def MX2_begin : MRow := (2, yX2_begin, cX2_begin, 7, (some .int), [])
def MX2_updateList : MRow := (2, yX2_updateList, cX2_updateList, 4, (some .int), [])
def MX2_updateSlot : MRow := (2, yX2_updateSlot, cX2_updateSlot, 7, none, [])
def MX2_goOn : MRow := (2, yX2_goOn, cX2_goOn, 5, (some .int), [])
def MX2_takeCode : MRow := (2, yX2_takeCode, cX2_takeCode, 5, (some .int), [])
def MX2_nextEffect : MRow := (2, yX2_nextEffect, cX2_nextEffect, 1, (some (.object "Lampboard$Effect")), [])
def MX2_runningEffects : MRow := (2, yX2_runningEffects, cX2_runningEffects, 3, (some .int), [])
def MX2_decider : MRow := (2, yX2_decider, cX2_decider, 8, (some .int), [])
def MX2_settled : MRow := (2, yX2_settled, cX2_settled, 3, (some .float), [])
def MX2_shown : MRow := (2, yX2_shown, cX2_shown, 6, (some .float), [])
def MX2_lineValue : MRow := (2, yX2_lineValue, cX2_lineValue, 4, (some .int), [])
def MX3_init : MRow := (3, yX3_init, cX3_init, 1, none, [])
def MX3_describe : MRow := (3, yX3_describe, cX3_describe, 7, none, [])
def MX3_runs : MRow := (3, yX3_runs, cX3_runs, 1, (some .boolean), [])
def MX3_wave : MRow := (3, yX3_wave, cX3_wave, 7, (some .float), [])
def MX4_init : MRow := (4, yX4_init, cX4_init, 2, none, [])
def MX4_has : MRow := (4, yX4_has, cX4_has, 2, (some .boolean), [])
def MX4_put : MRow := (4, yX4_put, cX4_put, 3, (some .int), [])
def MX4_drop : MRow := (4, yX4_drop, cX4_drop, 2, (some .int), [])
def MX4_empty : MRow := (4, yX4_empty, cX4_empty, 3, (some .int), [])
def MX4_copy : MRow := (4, yX4_copy, cX4_copy, 2, none, [])
def MX5_init : MRow := (5, yX5_init, cX5_init, 1, none, [])
def MX5_placeOf : MRow := (5, yX5_placeOf, cX5_placeOf, 3, (some .int), [])
def MX5_join : MRow := (5, yX5_join, cX5_join, 2, (some .int), [])
def MX6_init : MRow := (6, yX6_init, cX6_init, 1, none, [])
def MX6_mix : MRow := (6, yX6_mix, cX6_mix, 3, (some .int), [])
def MX6_change : MRow := (6, yX6_change, cX6_change, 4, (some .int), [])
def MX6_numberOf : MRow := (6, yX6_numberOf, cX6_numberOf, 2, (some .int), [])
def MX7_init : MRow := (7, yX7_init, cX7_init, 1, none, [])
def MX7_addLamp : MRow := (7, yX7_addLamp, cX7_addLamp, 1, (some .int), [])
def MX7_patch : MRow := (7, yX7_patch, cX7_patch, 3, (some .int), [])
def MX7_addGroup : MRow := (7, yX7_addGroup, cX7_addGroup, 1, (some .int), [])
def MX7_addToGroup : MRow := (7, yX7_addToGroup, cX7_addToGroup, 3, (some .int), [])
def MX7_addPalette : MRow := (7, yX7_addPalette, cX7_addPalette, 3, (some .int), [])
def MX7_setPalette : MRow := (7, yX7_setPalette, cX7_setPalette, 3, (some .int), [])
def MX7_set : MRow := (7, yX7_set, cX7_set, 5, (some .int), [])
def MX7_point : MRow := (7, yX7_point, cX7_point, 4, (some .int), [])
def MX7_fan : MRow := (7, yX7_fan, cX7_fan, 5, (some .int), [])
def MX7_knockOut : MRow := (7, yX7_knockOut, cX7_knockOut, 4, (some .int), [])
def MX7_clear : MRow := (7, yX7_clear, cX7_clear, 1, (some .int), [])
def MX7_record : MRow := (7, yX7_record, cX7_record, 2, (some .int), [])
def MX7_setTimes : MRow := (7, yX7_setTimes, cX7_setTimes, 5, (some .int), [])
def MX7_setFollow : MRow := (7, yX7_setFollow, cX7_setFollow, 4, (some .int), [])
def MX7_setLink : MRow := (7, yX7_setLink, cX7_setLink, 4, (some .int), [])
def MX7_setCode : MRow := (7, yX7_setCode, cX7_setCode, 4, (some .int), [])
def MX7_setAssert : MRow := (7, yX7_setAssert, cX7_setAssert, 4, (some .boolean), [])
def MX7_setMaster : MRow := (7, yX7_setMaster, cX7_setMaster, 3, (some .int), [])
def MX7_setPriority : MRow := (7, yX7_setPriority, cX7_setPriority, 3, (some .int), [])
def MX7_go : MRow := (7, yX7_go, cX7_go, 2, (some .int), [])
def MX7_goTo : MRow := (7, yX7_goTo, cX7_goTo, 3, (some .int), [])
def MX7_release : MRow := (7, yX7_release, cX7_release, 2, (some .int), [])
def MX7_update : MRow := (7, yX7_update, cX7_update, 2, (some .int), [])
def MX7_pass : MRow := (7, yX7_pass, cX7_pass, 2, (some .int), [])
def MX7_code : MRow := (7, yX7_code, cX7_code, 2, (some .int), [])
def MX7_addEffect : MRow := (7, yX7_addEffect, cX7_addEffect, 7, (some .int), [])
def MX7_start : MRow := (7, yX7_start, cX7_start, 2, (some .int), [])
def MX7_stop : MRow := (7, yX7_stop, cX7_stop, 2, (some .int), [])
def MX7_output : MRow := (7, yX7_output, cX7_output, 3, (some .int), [])
def MX7_outputBits : MRow := (7, yX7_outputBits, cX7_outputBits, 3, (some .int), [])
def MX7_line : MRow := (7, yX7_line, cX7_line, 2, (some .int), [])
def MX7_decides : MRow := (7, yX7_decides, cX7_decides, 4, (some .int), [])
def MX7_valueIn : MRow := (7, yX7_valueIn, cX7_valueIn, 5, (some .int), [])
def MX7_tracked : MRow := (7, yX7_tracked, cX7_tracked, 5, (some .int), [])
def MX7_source : MRow := (7, yX7_source, cX7_source, 5, (some .int), [])
def MX7_paletteOf : MRow := (7, yX7_paletteOf, cX7_paletteOf, 6, (some .int), [])
def MX7_cueOf : MRow := (7, yX7_cueOf, cX7_cueOf, 3, (some .int), [])
def MX7_cues : MRow := (7, yX7_cues, cX7_cues, 2, (some .int), [])
def MX7_isFading : MRow := (7, yX7_isFading, cX7_isFading, 2, (some .boolean), [])
def MX7_time : MRow := (7, yX7_time, cX7_time, 1, (some .int), [])
def MX7_sum : MRow := (7, yX7_sum, cX7_sum, 4, (some .long), [])
def MX7_litShare : MRow := (7, yX7_litShare, cX7_litShare, 3, (some .float), [])
def MX7_meanStored : MRow := (7, yX7_meanStored, cX7_meanStored, 4, (some .double), [])
def MX7_isSound : MRow := (7, yX7_isSound, cX7_isSound, 2, (some .boolean), [])
def MX7_runEffect : MRow := (7, yX7_runEffect, cX7_runEffect, 3, (some .int), [])
def MX7_needLamp : MRow := (7, yX7_needLamp, cX7_needLamp, 2, none, [])
def MX7_needAttribute : MRow := (7, yX7_needAttribute, cX7_needAttribute, 2, none, [])
def MX7_needSlot : MRow := (7, yX7_needSlot, cX7_needSlot, 3, none, [])
def MX7_needGroup : MRow := (7, yX7_needGroup, cX7_needGroup, 2, none, [])
def MX7_needPalette : MRow := (7, yX7_needPalette, cX7_needPalette, 2, none, [])
def MX7_needEffect : MRow := (7, yX7_needEffect, cX7_needEffect, 2, none, [])
def MX7_needList : MRow := (7, yX7_needList, cX7_needList, 2, none, [])
def MX7_needCue : MRow := (7, yX7_needCue, cX7_needCue, 3, none, [])
def MX7_needPresentCue : MRow := (7, yX7_needPresentCue, cX7_needPresentCue, 2, none, [])
def MX7_needEntry : MRow := (7, yX7_needEntry, cX7_needEntry, 6, (some .int), [])
def MX7_needRange : MRow := (7, yX7_needRange, cX7_needRange, 3, none, [])
def MX7_slotOf : MRow := (7, yX7_slotOf, cX7_slotOf, 2, (some .int), [])
def MX7_isPalette : MRow := (7, yX7_isPalette, cX7_isPalette, 1, (some .boolean), [])
def MX7_bitsOf : MRow := (7, yX7_bitsOf, cX7_bitsOf, 5, (some .int), [])
def MX8_init : MRow := (8, yX8_init, cX8_init, 2, none, [])
def MX8_thrown : MRow := (8, yX8_thrown, cX8_thrown, 1, (some .int), [])
def MX8_fails : MRow := (8, yX8_fails, cX8_fails, 2, (some .int), [])
def MX8_in : MRow := (8, yX8_in, cX8_in, 3, (some .boolean), [])
def MX8_isLamp : MRow := (8, yX8_isLamp, cX8_isLamp, 2, (some .boolean), [])
def MX8_isList : MRow := (8, yX8_isList, cX8_isList, 2, (some .boolean), [])
def MX8_isCue : MRow := (8, yX8_isCue, cX8_isCue, 3, (some .boolean), [])
def MX8_valueOf : MRow := (8, yX8_valueOf, cX8_valueOf, 2, (some .int), [])
def MX8_countProgrammer : MRow := (8, yX8_countProgrammer, cX8_countProgrammer, 3, (some .int), [])
def MX8_empties : MRow := (8, yX8_empties, cX8_empties, 2, none, [])
def MX8_at : MRow := (8, yX8_at, cX8_at, 4, (some .int), [])
def MX8_sourceOf : MRow := (8, yX8_sourceOf, cX8_sourceOf, 5, (some .int), [])
def MX8_trackedIn : MRow := (8, yX8_trackedIn, cX8_trackedIn, 5, (some .int), [])
def MX8_valueOfFade : MRow := (8, yX8_valueOfFade, cX8_valueOfFade, 7, (some .float), [])
def MX8_decided : MRow := (8, yX8_decided, cX8_decided, 8, (some .float), [])
def MX8_memberAt : MRow := (8, yX8_memberAt, cX8_memberAt, 4, (some .int), [])
def MX8_effect : MRow := (8, yX8_effect, cX8_effect, 6, (some .float), [])
def MX8_put : MRow := (8, yX8_put, cX8_put, 5, (some .float), [])
def MX8_begins : MRow := (8, yX8_begins, cX8_begins, 9, (some .int), [])
def MX8_nextOf : MRow := (8, yX8_nextOf, cX8_nextOf, 4, (some .int), [])
def MX8_addLamp : MRow := (8, yX8_addLamp, cX8_addLamp, 1, (some .int), [])
def MX8_patch : MRow := (8, yX8_patch, cX8_patch, 4, (some .int), [])
def MX8_addGroup : MRow := (8, yX8_addGroup, cX8_addGroup, 1, (some .int), [])
def MX8_addToGroup : MRow := (8, yX8_addToGroup, cX8_addToGroup, 3, (some .int), [])
def MX8_isKind : MRow := (8, yX8_isKind, cX8_isKind, 1, (some .boolean), [])
def MX8_isByte : MRow := (8, yX8_isByte, cX8_isByte, 1, (some .boolean), [])
def MX8_addPalette : MRow := (8, yX8_addPalette, cX8_addPalette, 3, (some .int), [])
def MX8_setPalette : MRow := (8, yX8_setPalette, cX8_setPalette, 4, (some .int), [])
def MX8_set : MRow := (8, yX8_set, cX8_set, 4, (some .int), [])
def MX8_point : MRow := (8, yX8_point, cX8_point, 3, (some .int), [])
def MX8_fan : MRow := (8, yX8_fan, cX8_fan, 7, (some .int), [])
def MX8_knockOut : MRow := (8, yX8_knockOut, cX8_knockOut, 3, (some .int), [])
def MX8_clear : MRow := (8, yX8_clear, cX8_clear, 2, (some .int), [])
def MX8_record : MRow := (8, yX8_record, cX8_record, 4, (some .int), [])
def MX8_setTimes : MRow := (8, yX8_setTimes, cX8_setTimes, 7, (some .int), [])
def MX8_setFollow : MRow := (8, yX8_setFollow, cX8_setFollow, 5, (some .int), [])
def MX8_setLink : MRow := (8, yX8_setLink, cX8_setLink, 5, (some .int), [])
def MX8_setCode : MRow := (8, yX8_setCode, cX8_setCode, 5, (some .int), [])
def MX8_setAssert : MRow := (8, yX8_setAssert, cX8_setAssert, 5, (some .boolean), [])
def MX8_setMaster : MRow := (8, yX8_setMaster, cX8_setMaster, 4, (some .int), [])
def MX8_setPriority : MRow := (8, yX8_setPriority, cX8_setPriority, 4, (some .int), [])
def MX8_go : MRow := (8, yX8_go, cX8_go, 3, (some .int), [])
def MX8_goTo : MRow := (8, yX8_goTo, cX8_goTo, 3, (some .int), [])
def MX8_release : MRow := (8, yX8_release, cX8_release, 4, (some .int), [])
def MX8_update : MRow := (8, yX8_update, cX8_update, 7, (some .int), [])
def MX8_pass : MRow := (8, yX8_pass, cX8_pass, 5, (some .int), [])
def MX8_code : MRow := (8, yX8_code, cX8_code, 7, (some .int), [])
def MX8_addEffect : MRow := (8, yX8_addEffect, cX8_addEffect, 8, (some .int), [])
def MX8_countRunning : MRow := (8, yX8_countRunning, cX8_countRunning, 3, (some .int), [])
def MX8_start : MRow := (8, yX8_start, cX8_start, 2, (some .int), [])
def MX8_stop : MRow := (8, yX8_stop, cX8_stop, 2, (some .int), [])
def MX8_isSlot : MRow := (8, yX8_isSlot, cX8_isSlot, 3, (some .boolean), [])
def MX8_output : MRow := (8, yX8_output, cX8_output, 3, (some .int), [])
def MX8_outputBits : MRow := (8, yX8_outputBits, cX8_outputBits, 3, (some .int), [])
def MX8_lineValue : MRow := (8, yX8_lineValue, cX8_lineValue, 3, (some .int), [])
def MX8_line : MRow := (8, yX8_line, cX8_line, 2, (some .int), [])
def MX8_decides : MRow := (8, yX8_decides, cX8_decides, 4, (some .int), [])
def MX8_valueIn : MRow := (8, yX8_valueIn, cX8_valueIn, 4, (some .int), [])
def MX8_entryOf : MRow := (8, yX8_entryOf, cX8_entryOf, 6, (some .int), [])
def MX8_tracked : MRow := (8, yX8_tracked, cX8_tracked, 6, (some .int), [])
def MX8_source : MRow := (8, yX8_source, cX8_source, 6, (some .int), [])
def MX8_paletteOf : MRow := (8, yX8_paletteOf, cX8_paletteOf, 6, (some .int), [])
def MX8_cueOf : MRow := (8, yX8_cueOf, cX8_cueOf, 2, (some .int), [])
def MX8_cues : MRow := (8, yX8_cues, cX8_cues, 2, (some .int), [])
def MX8_isFading : MRow := (8, yX8_isFading, cX8_isFading, 4, (some .boolean), [])
def MX8_time : MRow := (8, yX8_time, cX8_time, 1, (some .int), [])
def MX8_sum : MRow := (8, yX8_sum, cX8_sum, 4, (some .long), [])
def MX8_litShare : MRow := (8, yX8_litShare, cX8_litShare, 3, (some .float), [])
def MX8_meanStored : MRow := (8, yX8_meanStored, cX8_meanStored, 4, (some .double), [])
def MX8_isSound : MRow := (8, yX8_isSound, cX8_isSound, 1, (some .boolean), [])
def MJxf58ca_isNaN_12338 : MRow := (10, yJxf58ca_isNaN_12338, cJxf58ca_isNaN_12338, 1, (some .boolean), [])
def MJxf58ca_floatToIntBits_5c35a : MRow := (10, yJxf58ca_floatToIntBits_5c35a, cJxf58ca_floatToIntBits_5c35a, 1, (some .int), [])
def ML_addLamp : MRow := (9, yL_addLamp, cL_addLamp, 3, (some .int), [(0, 8, 11, 13)])
def ML_patch : MRow := (9, yL_patch, cL_patch, 5, (some .int), [(0, 10, 13, 19), (0, 10, 17, 21), (0, 10, 21, 13)])
def ML_addGroup : MRow := (9, yL_addGroup, cL_addGroup, 3, (some .int), [(0, 8, 11, 13)])
def ML_addToGroup : MRow := (9, yL_addToGroup, cL_addToGroup, 5, (some .int), [(0, 10, 13, 29), (0, 10, 17, 19), (0, 10, 21, 13)])
def ML_addPalette : MRow := (9, yL_addPalette, cL_addPalette, 5, (some .int), [(0, 10, 13, 21), (0, 10, 17, 13)])
def ML_setPalette : MRow := (9, yL_setPalette, cL_setPalette, 5, (some .int), [(0, 10, 13, 29), (0, 10, 17, 21)])
def ML_set : MRow := (9, yL_set, cL_set, 6, (some .int), [(0, 12, 15, 19), (0, 12, 19, 21)])
def ML_point : MRow := (9, yL_point, cL_point, 5, (some .int), [(0, 10, 13, 19), (0, 10, 17, 29)])
def ML_fan : MRow := (9, yL_fan, cL_fan, 7, (some .int), [(0, 14, 17, 29), (0, 14, 21, 21)])
def ML_knockOut : MRow := (9, yL_knockOut, cL_knockOut, 5, (some .int), [(0, 10, 13, 19), (0, 10, 17, 21), (0, 10, 21, 29)])
def ML_record : MRow := (9, yL_record, cL_record, 4, (some .int), [(0, 9, 12, 19), (0, 9, 15, 55), (0, 9, 18, 13)])
def ML_setTimes : MRow := (9, yL_setTimes, cL_setTimes, 7, (some .int), [(0, 14, 17, 19), (0, 14, 21, 21)])
def ML_setFollow : MRow := (9, yL_setFollow, cL_setFollow, 6, (some .int), [(0, 12, 15, 19), (0, 12, 19, 21)])
def ML_setLink : MRow := (9, yL_setLink, cL_setLink, 6, (some .int), [(0, 12, 15, 19), (0, 12, 19, 21)])
def ML_setCode : MRow := (9, yL_setCode, cL_setCode, 6, (some .int), [(0, 12, 15, 19), (0, 12, 19, 21)])
def ML_setAssert : MRow := (9, yL_setAssert, cL_setAssert, 6, (some .int), [(0, 19, 22, 19)])
def ML_setMaster : MRow := (9, yL_setMaster, cL_setMaster, 5, (some .int), [(0, 10, 13, 19), (0, 10, 17, 21)])
def ML_setPriority : MRow := (9, yL_setPriority, cL_setPriority, 5, (some .int), [(0, 10, 13, 19), (0, 10, 17, 21)])
def ML_go : MRow := (9, yL_go, cL_go, 4, (some .int), [(0, 9, 12, 19), (0, 9, 15, 13)])
def ML_goTo : MRow := (9, yL_goTo, cL_goTo, 5, (some .int), [(0, 10, 13, 19)])
def ML_release : MRow := (9, yL_release, cL_release, 4, (some .int), [(0, 9, 12, 19), (0, 9, 15, 13)])
def ML_update : MRow := (9, yL_update, cL_update, 4, (some .int), [(0, 9, 12, 19), (0, 9, 15, 13)])
def ML_pass : MRow := (9, yL_pass, cL_pass, 4, (some .int), [(0, 9, 12, 21), (0, 9, 15, 13)])
def ML_code : MRow := (9, yL_code, cL_code, 4, (some .int), [(0, 9, 12, 21)])
def ML_addEffect : MRow := (9, yL_addEffect, cL_addEffect, 9, (some .int), [(0, 18, 21, 29), (0, 18, 25, 21), (0, 18, 29, 13)])
def ML_start : MRow := (9, yL_start, cL_start, 4, (some .int), [(0, 9, 12, 29), (0, 9, 15, 13)])
def ML_stop : MRow := (9, yL_stop, cL_stop, 4, (some .int), [(0, 9, 12, 29), (0, 9, 15, 13)])
def ML_output : MRow := (9, yL_output, cL_output, 5, (some .int), [(0, 10, 13, 19), (0, 10, 17, 21)])
def ML_outputBits : MRow := (9, yL_outputBits, cL_outputBits, 5, (some .int), [(0, 10, 13, 19), (0, 10, 17, 21)])
def ML_line : MRow := (9, yL_line, cL_line, 4, (some .int), [(0, 9, 12, 21)])
def ML_decides : MRow := (9, yL_decides, cL_decides, 5, (some .int), [(0, 10, 13, 19), (0, 10, 17, 21), (0, 10, 21, 29)])
def ML_valueIn : MRow := (9, yL_valueIn, cL_valueIn, 6, (some .int), [(0, 12, 15, 19), (0, 12, 19, 21), (0, 12, 23, 29)])
def ML_tracked : MRow := (9, yL_tracked, cL_tracked, 7, (some .int), [(0, 14, 17, 19), (0, 14, 21, 21), (0, 14, 25, 29)])
def ML_source : MRow := (9, yL_source, cL_source, 7, (some .int), [(0, 14, 17, 19), (0, 14, 21, 21), (0, 14, 25, 29)])
def ML_paletteOf : MRow := (9, yL_paletteOf, cL_paletteOf, 7, (some .int), [(0, 14, 17, 19), (0, 14, 21, 21), (0, 14, 25, 29)])
def ML_cueOf : MRow := (9, yL_cueOf, cL_cueOf, 4, (some .int), [(0, 9, 12, 19), (0, 9, 15, 29)])
def ML_cues : MRow := (9, yL_cues, cL_cues, 4, (some .int), [(0, 9, 12, 19)])
def ML_isFading : MRow := (9, yL_isFading, cL_isFading, 4, (some .int), [(0, 16, 19, 19)])
def ML_litShare : MRow := (9, yL_litShare, cL_litShare, 3, (some .int), [(0, 8, 11, 145)])
def ML_meanStored : MRow := (9, yL_meanStored, cL_meanStored, 3, (some .int), [(0, 7, 10, 145)])
def ML_law : MRow := (9, yL_law, cL_law, 9, (some .boolean), [])
def methT : List MRow := [MX0_init, MX0_changeTimes, MX0_changeFollow, MX0_changeLink, MX0_changeCode, MX0_changeAssert, MX1_init, MX1_changeMaster, MX1_changePriority, MX1_sourceOf, MX1_entryOf, MX1_nextCue, MX1_cueThatFollows, MX1_cueForCode, MX1_hasFade, MX1_needsNewFade, MX1_startFade, MX1_fadeValue, MX1_putOut, MX1_hasOpenFade, MX1_letGo, MX1_storedInAll, MX1_tracksAsGoneThrough, MX2_init, MX2_placeLamp, MX2_meetsAnotherLamp, MX2_moveLamp, MX2_formGroup, MX2_spreadOver, MX2_cueAt, MX2_storeCue, MX2_advance, MX2_begin, MX2_updateList, MX2_updateSlot, MX2_goOn, MX2_takeCode, MX2_nextEffect, MX2_runningEffects, MX2_decider, MX2_settled, MX2_shown, MX2_lineValue, MX3_init, MX3_describe, MX3_runs, MX3_wave, MX4_init, MX4_has, MX4_put, MX4_drop, MX4_empty, MX4_copy, MX5_init, MX5_placeOf, MX5_join, MX6_init, MX6_mix, MX6_change, MX6_numberOf, MX7_init, MX7_addLamp, MX7_patch, MX7_addGroup, MX7_addToGroup, MX7_addPalette, MX7_setPalette, MX7_set, MX7_point, MX7_fan, MX7_knockOut, MX7_clear, MX7_record, MX7_setTimes, MX7_setFollow, MX7_setLink, MX7_setCode, MX7_setAssert, MX7_setMaster, MX7_setPriority, MX7_go, MX7_goTo, MX7_release, MX7_update, MX7_pass, MX7_code, MX7_addEffect, MX7_start, MX7_stop, MX7_output, MX7_outputBits, MX7_line, MX7_decides, MX7_valueIn, MX7_tracked, MX7_source, MX7_paletteOf, MX7_cueOf, MX7_cues, MX7_isFading, MX7_time, MX7_sum, MX7_litShare, MX7_meanStored, MX7_isSound, MX7_runEffect, MX7_needLamp, MX7_needAttribute, MX7_needSlot, MX7_needGroup, MX7_needPalette, MX7_needEffect, MX7_needList, MX7_needCue, MX7_needPresentCue, MX7_needEntry, MX7_needRange, MX7_slotOf, MX7_isPalette, MX7_bitsOf, MX8_init, MX8_thrown, MX8_fails, MX8_in, MX8_isLamp, MX8_isList, MX8_isCue, MX8_valueOf, MX8_countProgrammer, MX8_empties, MX8_at, MX8_sourceOf, MX8_trackedIn, MX8_valueOfFade, MX8_decided, MX8_memberAt, MX8_effect, MX8_put, MX8_begins, MX8_nextOf, MX8_addLamp, MX8_patch, MX8_addGroup, MX8_addToGroup, MX8_isKind, MX8_isByte, MX8_addPalette, MX8_setPalette, MX8_set, MX8_point, MX8_fan, MX8_knockOut, MX8_clear, MX8_record, MX8_setTimes, MX8_setFollow, MX8_setLink, MX8_setCode, MX8_setAssert, MX8_setMaster, MX8_setPriority, MX8_go, MX8_goTo, MX8_release, MX8_update, MX8_pass, MX8_code, MX8_addEffect, MX8_countRunning, MX8_start, MX8_stop, MX8_isSlot, MX8_output, MX8_outputBits, MX8_lineValue, MX8_line, MX8_decides, MX8_valueIn, MX8_entryOf, MX8_tracked, MX8_source, MX8_paletteOf, MX8_cueOf, MX8_cues, MX8_isFading, MX8_time, MX8_sum, MX8_litShare, MX8_meanStored, MX8_isSound, MJxf58ca_isNaN_12338, MJxf58ca_floatToIntBits_5c35a, ML_addLamp, ML_patch, ML_addGroup, ML_addToGroup, ML_addPalette, ML_setPalette, ML_set, ML_point, ML_fan, ML_knockOut, ML_record, ML_setTimes, ML_setFollow, ML_setLink, ML_setCode, ML_setAssert, ML_setMaster, ML_setPriority, ML_go, ML_goTo, ML_release, ML_update, ML_pass, ML_code, ML_addEffect, ML_start, ML_stop, ML_output, ML_outputBits, ML_line, ML_decides, ML_valueIn, ML_tracked, ML_source, ML_paletteOf, ML_cueOf, ML_cues, ML_isFading, ML_litShare, ML_meanStored, ML_law]
def hgtT : List Nat := [2, 1, 1, 1, 1, 1, 3, 1, 1, 1, 2, 1, 2, 1, 1, 2, 1, 2, 3, 2, 2, 1, 3, 4, 1, 1, 1, 1, 2, 1, 2, 7, 6, 3, 2, 7, 7, 1, 2, 4, 5, 6, 7, 1, 1, 1, 1, 1, 1, 1, 1, 1, 1, 1, 1, 1, 1, 1, 1, 1, 5, 2, 2, 2, 2, 3, 2, 4, 2, 3, 4, 2, 3, 3, 3, 3, 3, 3, 2, 2, 8, 7, 3, 4, 8, 8, 3, 4, 4, 7, 7, 8, 5, 4, 5, 5, 5, 2, 2, 3, 1, 8, 7, 2, 8, 3, 1, 2, 3, 1, 1, 1, 1, 2, 2, 4, 1, 1, 1, 1, 1, 1, 1, 1, 2, 2, 3, 1, 1, 1, 1, 2, 3, 4, 5, 1, 1, 6, 6, 1, 2, 3, 2, 3, 2, 2, 3, 3, 3, 3, 3, 3, 2, 3, 4, 4, 4, 4, 4, 3, 3, 7, 7, 3, 3, 7, 7, 3, 1, 2, 2, 3, 7, 7, 7, 8, 6, 5, 4, 5, 5, 5, 3, 3, 3, 1, 8, 7, 1, 1, 1, 2, 3, 3, 3, 3, 4, 3, 5, 3, 4, 5, 4, 4, 4, 4, 4, 4, 3, 3, 9, 8, 4, 5, 9, 9, 4, 5, 5, 8, 8, 9, 6, 5, 6, 6, 6, 3, 3, 4, 8, 3, 15]
def budT : List (Nat × Nat) := [(2, 50), (0, 0), (0, 0), (0, 0), (0, 0), (0, 0), (41, 888), (0, 0), (0, 0), (0, 0), (0, 0), (0, 0), (0, 0), (0, 0), (0, 0), (0, 0), (0, 0), (0, 0), (0, 0), (0, 0), (0, 0), (0, 0), (0, 0), (151, 2900), (0, 0), (0, 0), (0, 0), (0, 0), (0, 0), (0, 0), (0, 0), (0, 0), (0, 0), (0, 0), (0, 0), (0, 0), (0, 0), (0, 0), (0, 0), (0, 0), (0, 0), (0, 0), (0, 0), (0, 0), (0, 0), (0, 0), (0, 0), (1, 48), (0, 0), (0, 0), (0, 0), (0, 0), (0, 0), (1, 12), (0, 0), (0, 0), (2, 16), (0, 0), (0, 0), (0, 0), (304, 5822), (1, 6), (3, 18), (1, 6), (3, 18), (3, 18), (2, 12), (3, 18), (2, 12), (4, 24), (3, 18), (0, 0), (2, 12), (4, 24), (3, 18), (3, 18), (3, 18), (2, 12), (2, 12), (2, 12), (2, 12), (2, 12), (2, 12), (2, 12), (2, 12), (1, 6), (6, 36), (2, 12), (2, 12), (2, 12), (2, 12), (1, 6), (3, 18), (4, 24), (5, 30), (5, 30), (6, 36), (2, 12), (1, 6), (1, 6), (0, 0), (0, 0), (1, 6), (1, 6), (0, 0), (0, 0), (1, 6), (1, 6), (2, 12), (1, 6), (1, 6), (1, 6), (1, 6), (2, 12), (2, 12), (5, 30), (1, 6), (0, 0), (0, 0), (0, 0), (33, 2961), (0, 0), (0, 0), (0, 0), (0, 0), (0, 0), (0, 0), (0, 0), (0, 0), (0, 0), (0, 0), (0, 0), (0, 0), (0, 0), (0, 0), (0, 0), (0, 0), (0, 0), (0, 0), (0, 0), (0, 0), (0, 0), (0, 0), (0, 0), (0, 0), (0, 0), (0, 0), (0, 0), (0, 0), (0, 0), (0, 0), (0, 0), (0, 0), (0, 0), (0, 0), (0, 0), (0, 0), (0, 0), (0, 0), (0, 0), (0, 0), (0, 0), (0, 0), (0, 0), (0, 0), (0, 0), (0, 0), (0, 0), (0, 0), (0, 0), (0, 0), (0, 0), (0, 0), (0, 0), (0, 0), (0, 0), (0, 0), (0, 0), (0, 0), (0, 0), (0, 0), (0, 0), (0, 0), (0, 0), (0, 0), (0, 0), (0, 0), (0, 0), (0, 0), (0, 0), (0, 0), (0, 0), (1, 6), (3, 18), (1, 6), (3, 18), (3, 18), (2, 12), (3, 18), (2, 12), (4, 24), (3, 18), (2, 12), (4, 24), (3, 18), (3, 18), (3, 18), (2, 12), (2, 12), (2, 12), (2, 12), (2, 12), (2, 12), (2, 12), (2, 12), (1, 6), (6, 36), (2, 12), (2, 12), (2, 12), (2, 12), (1, 6), (3, 18), (4, 24), (5, 30), (5, 30), (6, 36), (2, 12), (1, 6), (1, 6), (1, 6), (1, 6), (603072, 7215210)]
def ownT : List String := [RX0, RX1, RX2, RX3, RX4, RX5, RX6, RX7, RX8, RL, RJxf58ca]
def fldT : List (List (Nat × Nat × Nat)) := [[(12, 0, 0), (18, 0, 3), (22, 0, 4), (25, 0, 5), (28, 0, 1), (31, 0, 2), (34, 0, 6)],
  [(11, 1, 0), (17, 1, 2), (21, 1, 4), (24, 1, 5), (27, 1, 6), (31, 1, 7), (35, 1, 8), (38, 1, 9), (42, 0, 0), (46, 4, 0), (55, 0, 4), (58, 1, 1), (61, 0, 3), (64, 1, 3), (71, 0, 5), (74, 0, 6), (78, 0, 1), (81, 0, 2), (99, 4, 1)],
  [(9, 2, 0), (17, 2, 2), (24, 2, 4), (31, 2, 5), (37, 2, 6), (43, 2, 7), (50, 2, 1), (60, 2, 3), (63, 5, 0), (65, 5, 1), (75, 4, 1), (76, 1, 0), (80, 1, 1), (81, 0, 0), (100, 2, 10), (106, 1, 9), (117, 2, 9), (132, 1, 2), (135, 1, 3), (145, 4, 0), (160, 2, 8), (170, 1, 5), (179, 3, 1), (182, 3, 0)],
  [(9, 3, 4), (15, 3, 6), (18, 3, 0), (21, 3, 1), (24, 3, 2), (28, 3, 3), (31, 3, 5)],
  [(9, 4, 0), (15, 4, 1)],
  [(9, 5, 0), (15, 5, 1)],
  [(9, 6, 0), (15, 6, 1), (18, 6, 2)],
  [(12, 7, 0), (16, 7, 1), (19, 2, 1), (52, 2, 3), (63, 2, 2), (81, 2, 4), (85, 6, 2), (108, 2, 5), (117, 6, 0), (143, 4, 1), (149, 2, 6), (153, 1, 1), (212, 2, 9), (228, 2, 8), (246, 2, 7), (300, 1, 2), (321, 3, 6)],
  [(7, 8, 7), (13, 8, 8), (16, 8, 9), (19, 8, 10), (22, 8, 11), (25, 8, 12), (28, 8, 13), (31, 8, 14), (34, 8, 15), (37, 8, 16), (40, 8, 17), (43, 8, 18), (46, 8, 19), (49, 8, 20), (52, 8, 21), (55, 8, 22), (58, 8, 23), (61, 8, 24), (65, 8, 25), (68, 8, 26), (71, 8, 27), (74, 8, 28), (77, 8, 29), (80, 8, 30), (84, 8, 31), (87, 8, 32), (90, 8, 33), (93, 8, 34), (96, 8, 35), (99, 8, 36), (102, 8, 37), (105, 8, 38), (108, 8, 39), (111, 8, 0), (115, 8, 1), (140, 8, 5), (143, 8, 40), (155, 8, 4), (166, 8, 6), (175, 8, 2), (184, 8, 3)],
  [],
  []]
def calT : List (List (Nat × Nat × Nat)) := [[(3, 6, 0), (11, 3, kX4_init)],
  [(3, 6, 0), (41, 4, kX0_init), (51, 0, kX1_sourceOf), (67, 0, kX1_nextCue), (84, 0, kX6_numberOf), (90, 0, kX1_fadeValue), (95, 0, kX1_hasFade), (100, 0, kX4_has), (103, 0, kX1_entryOf)],
  [(3, 6, 0), (23, 4, kX6_init), (30, 3, kX4_init), (47, 4, kX5_init), (48, 3, kX1_init), (49, 4, kX3_init), (54, 7, 0), (68, 5, kX7_slotOf), (72, 0, kX4_put), (86, 0, kX4_copy), (90, 0, kX4_empty), (94, 0, kX1_nextCue), (97, 0, kX2_begin), (103, 0, kX1_sourceOf), (109, 0, kX1_needsNewFade), (113, 0, kX1_hasFade), (120, 0, kX1_fadeValue), (124, 0, kX2_settled), (128, 0, kX1_startFade), (138, 0, kX4_has), (141, 0, kX2_updateSlot), (148, 5, kX7_isPalette), (151, 0, kX6_change), (154, 0, kX1_cueThatFollows), (157, 0, kX1_cueForCode), (163, 0, kX3_runs), (167, 0, kX1_putOut), (173, 0, kX2_decider), (176, 0, kX6_numberOf), (185, 0, kX5_placeOf), (188, 0, kX3_wave), (193, 0, kX2_shown)],
  [(3, 6, 0)],
  [(3, 6, 0), (19, 8, 0)],
  [(3, 6, 0)],
  [(3, 6, 0)],
  [(3, 6, 0), (11, 3, kX2_init), (30, 0, kX2_placeLamp), (34, 0, kX7_needLamp), (38, 1, kX7_needRange), (42, 0, kX2_meetsAnotherLamp), (48, 0, kX2_moveLamp), (57, 0, kX2_formGroup), (60, 0, kX7_needGroup), (67, 0, kX5_placeOf), (75, 0, kX5_join), (78, 0, kX7_needAttribute), (92, 0, kX6_mix), (95, 0, kX7_needPalette), (98, 0, kX6_change), (101, 0, kX7_needSlot), (105, 1, kX7_slotOf), (112, 0, kX4_put), (121, 0, kX2_spreadOver), (125, 0, kX4_has), (134, 0, kX4_drop), (137, 0, kX4_empty), (140, 0, kX7_needList), (158, 0, kX2_storeCue), (161, 0, kX7_needCue), (164, 0, kX2_cueAt), (168, 0, kX0_changeTimes), (173, 0, kX0_changeFollow), (176, 0, kX0_changeLink), (179, 0, kX0_changeCode), (182, 0, kX0_changeAssert), (186, 0, kX1_changeMaster), (189, 0, kX1_changePriority), (192, 0, kX1_nextCue), (197, 0, kX2_advance), (200, 0, kX2_begin), (203, 0, kX7_needPresentCue), (206, 0, kX1_letGo), (209, 0, kX2_updateList), (217, 0, kX2_goOn), (220, 0, kX2_takeCode), (233, 0, kX2_nextEffect), (237, 0, kX3_describe), (243, 0, kX7_needEffect), (250, 0, kX3_runs), (256, 0, kX7_runEffect), (261, 0, kX2_shown), (265, 1, kX7_bitsOf), (269, 0, kX2_lineValue), (272, 0, kX2_decider), (277, 0, kX1_hasFade), (282, 0, kX1_fadeValue), (286, 0, kX7_needEntry), (289, 0, kX6_numberOf), (292, 0, kX1_sourceOf), (295, 1, kX7_isPalette), (305, 0, kX1_hasOpenFade), (313, 0, kX1_storedInAll), (318, 0, kX1_tracksAsGoneThrough), (324, 0, kX2_runningEffects), (342, 0, kX1_entryOf)],
  [(1, 6, 0), (118, 1, kX8_in), (122, 0, kX8_isList), (126, 0, kX8_at), (130, 0, kX8_sourceOf), (133, 0, kX8_trackedIn), (136, 0, kX8_valueOf), (146, 0, kX8_valueOfFade), (151, 0, kX8_decided), (158, 0, kX8_memberAt), (162, 0, kX8_effect), (169, 0, kX8_fails), (172, 0, kX8_isLamp), (178, 1, kX8_isKind), (181, 1, kX8_isByte), (187, 0, kX8_countProgrammer), (191, 0, kX8_empties), (194, 0, kX8_isCue), (198, 0, kX8_nextOf), (201, 0, kX8_begins), (204, 0, kX8_countRunning), (207, 0, kX8_isSlot), (210, 0, kX8_put), (213, 1, kJxf58ca_floatToIntBits_5c35a), (219, 0, kX8_lineValue), (222, 0, kX8_entryOf)],
  [(7, 0, kX7_addLamp), (15, 0, kX7_patch), (23, 0, kX7_addGroup), (26, 0, kX7_addToGroup), (31, 0, kX7_addPalette), (34, 0, kX7_setPalette), (37, 0, kX7_set), (41, 0, kX7_point), (44, 0, kX7_fan), (48, 0, kX7_knockOut), (51, 0, kX7_record), (57, 0, kX7_setTimes), (60, 0, kX7_setFollow), (63, 0, kX7_setLink), (66, 0, kX7_setCode), (69, 0, kX7_setAssert), (73, 0, kX7_setMaster), (76, 0, kX7_setPriority), (79, 0, kX7_go), (82, 0, kX7_goTo), (85, 0, kX7_release), (88, 0, kX7_update), (91, 0, kX7_pass), (94, 0, kX7_code), (97, 0, kX7_addEffect), (101, 0, kX7_start), (104, 0, kX7_stop), (107, 0, kX7_output), (110, 0, kX7_outputBits), (113, 0, kX7_line), (116, 0, kX7_decides), (119, 0, kX7_valueIn), (122, 0, kX7_tracked), (125, 0, kX7_source), (128, 0, kX7_paletteOf), (131, 0, kX7_cueOf), (134, 0, kX7_cues), (137, 0, kX7_isFading), (141, 0, kX7_litShare), (147, 0, kX7_meanStored), (151, 3, kX7_init), (154, 3, kX8_init), (155, 2, kL_addLamp), (160, 0, kX8_addLamp), (161, 0, kX8_thrown), (164, 2, kL_patch), (167, 0, kX8_patch), (168, 2, kL_addGroup), (170, 0, kX8_addGroup), (171, 2, kL_addToGroup), (173, 0, kX8_addToGroup), (174, 2, kL_addPalette), (176, 0, kX8_addPalette), (177, 2, kL_setPalette), (179, 0, kX8_setPalette), (180, 2, kL_set), (183, 0, kX8_set), (184, 2, kL_point), (186, 0, kX8_point), (187, 2, kL_fan), (190, 0, kX8_fan), (191, 2, kL_knockOut), (193, 0, kX8_knockOut), (194, 0, kX7_clear), (197, 0, kX8_clear), (198, 2, kL_record), (201, 0, kX8_record), (202, 2, kL_setTimes), (204, 0, kX8_setTimes), (205, 2, kL_setFollow), (207, 0, kX8_setFollow), (208, 2, kL_setLink), (210, 0, kX8_setLink), (211, 2, kL_setCode), (213, 0, kX8_setCode), (214, 2, kL_setAssert), (217, 0, kX8_setAssert), (218, 2, kL_setMaster), (220, 0, kX8_setMaster), (221, 2, kL_setPriority), (223, 0, kX8_setPriority), (224, 2, kL_go), (226, 0, kX8_go), (227, 2, kL_goTo), (229, 0, kX8_goTo), (230, 2, kL_release), (232, 0, kX8_release), (233, 2, kL_update), (235, 0, kX8_update), (236, 2, kL_pass), (238, 0, kX8_pass), (239, 2, kL_code), (241, 0, kX8_code), (242, 2, kL_addEffect), (245, 0, kX8_addEffect), (246, 2, kL_start), (248, 0, kX8_start), (249, 2, kL_stop), (251, 0, kX8_stop), (252, 2, kL_output), (254, 0, kX8_output), (255, 2, kL_outputBits), (257, 0, kX8_outputBits), (258, 2, kL_line), (260, 0, kX8_line), (261, 2, kL_decides), (263, 0, kX8_decides), (264, 2, kL_valueIn), (266, 0, kX8_valueIn), (267, 2, kL_tracked), (269, 0, kX8_tracked), (270, 2, kL_source), (272, 0, kX8_source), (273, 2, kL_paletteOf), (275, 0, kX8_paletteOf), (276, 2, kL_cueOf), (278, 0, kX8_cueOf), (279, 2, kL_cues), (281, 0, kX8_cues), (282, 2, kL_isFading), (284, 0, kX8_isFading), (285, 0, kX7_time), (288, 0, kX8_time), (289, 0, kX7_sum), (293, 0, kX8_sum), (294, 2, kL_litShare), (297, 0, kX8_litShare), (298, 2, kL_meanStored), (300, 0, kX8_meanStored), (301, 0, kX7_isSound), (305, 0, kX8_isSound)],
  [(59, 1, kJxf58ca_isNaN_12338), (74, 9, 0)]]
def newT : List (List (Nat × Nat × Nat)) := [[(9, 0, 4)],
  [(9, 0, 0)],
  [(15, 0, 5), (21, 0, 6), (28, 0, 4), (35, 0, 1), (41, 0, 3)],
  [],
  [],
  [],
  [],
  [(9, 0, 2), (23, 1, 0), (129, 1, 5), (144, 1, 4), (223, 1, 1), (308, 1, 3), (327, 1, 2)],
  [],
  [(8, 0, 7), (152, 0, 8)],
  []]
def ldcT : List (List (Nat × Value)) := [[],
  [(94, .float 0x42c80000)],
  [(192, .float 0x437f0000)],
  [],
  [],
  [],
  [],
  [(349, .double 0x4000000000000000), (351, .double 0x4160000000000000)],
  [(150, .float 0x42c80000), (165, .float 0x437f0000)],
  [],
  [(77, .int 2143289344)]]
def strT : List (List (Nat × String)) := [[],
  [],
  [],
  [],
  [],
  [],
  [],
  [(25, "no more lamps"), (46, "a line is of another lamp"), (55, "no more groups"), (73, "the lamp is in the group"), (90, "no more palettes"), (131, "no such entry"), (146, "nothing to record"), (156, "no more cues"), (195, "no next cue"), (215, "too late"), (225, "no such shape"), (231, "no more effects"), (254, "the effect runs"), (259, "the effect does not run"), (275, "nobody decides"), (280, "no such fade"), (298, "the entry is a number"), (303, "no present cue"), (310, "no lamps"), (316, "no cues"), (329, "no such lamp"), (332, "no such group"), (334, "no such palette"), (336, "no such effect"), (338, "no such list"), (340, "no such cue"), (345, "no entry is tracked"), (347, "out of range")],
  [],
  [],
  []]
def excT : List String := ["java/lang/IllegalStateException", "java/lang/IllegalArgumentException", "java/lang/IndexOutOfBoundsException", "java/lang/ArithmeticException", "java/lang/UnsupportedOperationException", "java/util/NoSuchElementException"]
end
section
/-! A small machine of our own: values, cells by their numbers 1 .. n (0 is the script), the twelve kinds of arrays by tags. 'go' runs a method of this claim on it. -/
abbrev Hp : Type := Nat × (Nat → va_E)
abbrev Out : Type := Option Value ⊕ Nat
abbrev Cfg : Type := Nat × List Value × List Value × Nat × Nat × Hp
abbrev Act : Type := Cfg ⊕ (Out ⊕ (Nat × List Value × List Value))
def mRow (k : Nat) : MRow := methT.getD k MX0_init
def mO (k : Nat) : Nat := (mRow k).1
def mY (k : Nat) : MethodName := (mRow k).2.1
def mB (k : Nat) : ByteArray := (mRow k).2.2.1
def mL (k : Nat) : Nat := (mRow k).2.2.2.1
def mR (k : Nat) : Option FieldType := (mRow k).2.2.2.2.1
def mH (k : Nat) : List (Nat × Nat × Nat × Nat) := (mRow k).2.2.2.2.2
def mA (k : Nat) : Nat := ((parseMethodDescriptor (mY k).desc).map (fun d => d.parameters.length)).getD 0
def hgt (k : Nat) : Nat := hgtT.getD k 0
def mcT (k : Nat) : Nat := (budT.getD k (0, 0)).1
def msT (k : Nat) : Nat := (budT.getD k (0, 0)).2
def ins (k pc : Nat) : Option Instr := (codeT.getD k []).lookup pc
def fldOf (k x : Nat) : Option (Nat × Nat) := (fldT.getD (mO k) []).lookup x
def calOf (k x : Nat) : Option (Nat × Nat) := (calT.getD (mO k) []).lookup x
def newOf (k x : Nat) : Option (Nat × Nat) := (newT.getD (mO k) []).lookup x
def ldcOf (k x : Nat) : Option Value := (ldcT.getD (mO k) []).lookup x
def strOf (k x : Nat) : Option String := (strT.getD (mO k) []).lookup x
def nF (ci : Nat) : Nat := (vw9.map fun r => r.2.2).getD ci 0
def tF (ci : Nat) : u_T := (vw9.map fun r => r.2.1).getD ci TX0
def rF (ci : Nat) : String := (vw9.map fun r => r.1).getD ci RX0
def yF (ci : Nat) : Nat → FieldType := [tyX0, tyX1, tyX2, tyX3, tyX4, tyX5, tyX6, tyX7, tyX8].getD ci tyX0
def dflt (ci : Nat) : List Value := (List.range (nF ci)).map fun j => defaultValue (yF ci j)
def tagTy : List FieldType := [.int, .float, .boolean, .long, .double, .object RX5, .object RX1, .object RX3, .object RX0]
def arTag (ci : Nat) : Option Nat := [(5, 5), (1, 6), (3, 7), (0, 8)].lookup ci
/-- a cell's content: an object's fields, an array by its tag -/
def isObj (hp : Hp) (a ci : Nat) : Option (List Value) := match hp.2 a with
  | .inr (c, fs) => if c = ci ∧ 1 ≤ a ∧ a ≤ hp.1 then some fs else none
  | .inl _ => none
def setHp (hp : Hp) (a : Nat) (e : va_E) : Hp := (hp.1, va_up hp.2 a e)
def addHp (hp : Hp) (e : va_E) : Hp := (hp.1 + 1, va_up hp.2 (hp.1 + 1) e)
def nx (pc : Nat) (ls st : List Value) (bc bs : Nat) (hp : Hp) : Option Act := some (.inl (pc, ls, st, bc, bs, hp))
def jmp (pc : Nat) (off : Int) : Option Nat := match (pc : Int) + off with
  | .ofNat t => some t
  | .negSucc _ => none
def pok (ls : List Value) (j : Nat) : Bool := match j with
  | 0 => true
  | j + 1 => decide ((ls.getD j .null).category = 1)
def st1 (ls : List Value) (j : Nat) (v : Value) : Option (List Value) := if j < ls.length ∧ pok ls j = true then some (ls.set j v) else none
def st2 (ls : List Value) (j : Nat) (v : Value) : Option (List Value) := if j + 1 < ls.length ∧ pok ls j = true then some ((ls.set j v).set (j + 1) .null) else none
def br (c : Prop) [Decidable c] (pc : Nat) (off : Int) (ls st : List Value) (bc bs : Nat) (hp : Hp) : Option Act := match jmp pc off with
  | some t => if c then nx t ls st bc bs hp else nx (pc + 3) ls st bc bs hp
  | none => none
def icnd (c : ClassFile.Cond) (x y : Int32) : Prop := match c with
  | .eq => x = y
  | .ne => ¬ x = y
  | .lt => x < y
  | .ge => y ≤ x
  | .gt => y < x
  | .le => x ≤ y
def icndB (c : ClassFile.Cond) (x y : Int32) : Bool := match c with
  | .eq => decide (x = y)
  | .ne => decide (¬ x = y)
  | .lt => decide (x < y)
  | .ge => decide (y ≤ x)
  | .gt => decide (y < x)
  | .le => decide (x ≤ y)
def nsum (st : List Value) : Nat := (st.map fun v => v.category).sum
def nn32 (r : UInt32) : Bool := decide (r &&& 0x7fffffff ≤ 0x7f800000)
def nn64 (r : UInt64) : Bool := decide (r &&& 0x7fffffffffffffff ≤ 0x7ff0000000000000)
def thrB (k x c : Nat) : Bool := decide (mO k = 7) && decide ((x, c) ∈ [(23, 27), (327, 331), (223, 227), (129, 133), (144, 148), (308, 312)])
/-- 'throw new E("..")' from its first instruction on -/
def throwAt (k pc x : Nat) : Bool := match ins k (pc + 3), ins k (pc + 4) with
  | some .dup, some (.ldc s) => (strOf k s).isSome && (match ins k (pc + 6), ins k (pc + 9) with
    | some (.invokespecial c), some .athrow => thrB k x c
    | _, _ => false)
  | some .dup, some (.ldc_w s) => (strOf k s).isSome && (match ins k (pc + 7), ins k (pc + 10) with
    | some (.invokespecial c), some .athrow => thrB k x c
    | _, _ => false)
  | _, _ => false
def newA (t N : Nat) : Option vp_A := match t with
  | 0 => some (N, .inl fun _ => 0)
  | 1 => some (N, .inr (.inr (.inl fun _ => 0)))
  | 2 => some (N, .inl fun _ => 0)
  | 3 => some (N, .inr (.inl fun _ => 0))
  | 4 => some (N, .inr (.inr (.inr (.inl fun _ => 0))))
  | _ => none
def atTag : ArrayType → Nat
  | .int => 0
  | .float => 1
  | .boolean => 2
  | .long => 3
  | .double => 4
  | _ => 9
def outI (k : Nat) (x : Int32) : Bool := match mR k with
  | some .int => true
  | some .boolean => decide (narrow .boolean (.int x) = .int x)
  | _ => false
def retO (o : Option Value) : Option Act := some (.inr (.inl (.inl o)))
def callO (k : Nat) (as rest : List Value) : Option Act := some (.inr (.inr (k, as, rest)))
def putOK (k ci j : Nat) (v : Value) : Bool := (decide ((tF ci j).2.2.2 = false) || (decide ((mY k).name = "<init>") && decide ((tF ci j).1 = ownT.getD (mO k) ""))) && decide (narrow (yF ci j) v = v) && fits (yF ci j) v
def isRefB : Value → Bool
  | .ref _ => true
  | _ => false
def act (k : Nat) (i : Instr) (pc : Nat) (ls st : List Value) (bc bs : Nat) (hp : Hp) : Option Act :=
  match i, st with
  | .aload_n j, st => (match ls[(j : Nat)]? with | some (.ref a) => nx (pc + 1) ls (.ref a :: st) bc bs hp | _ => none)
  | .aload j, st => (match ls[j]? with | some (.ref a) => nx (pc + 2) ls (.ref a :: st) bc bs hp | _ => none)
  | .iload_n j, st => (match ls[(j : Nat)]? with | some (.int a) => nx (pc + 1) ls (.int a :: st) bc bs hp | _ => none)
  | .iload j, st => (match ls[j]? with | some (.int a) => nx (pc + 2) ls (.int a :: st) bc bs hp | _ => none)
  | .lload_n j, st => (match ls[(j : Nat)]? with | some (.long a) => nx (pc + 1) ls (.long a :: st) bc bs hp | _ => none)
  | .fload_n j, st => (match ls[(j : Nat)]? with | some (.float a) => nx (pc + 1) ls (.float a :: st) bc bs hp | _ => none)
  | .fload j, st => (match ls[j]? with | some (.float a) => nx (pc + 2) ls (.float a :: st) bc bs hp | _ => none)
  | .dload_n j, st => (match ls[(j : Nat)]? with | some (.double a) => nx (pc + 1) ls (.double a :: st) bc bs hp | _ => none)
  | .dload j, st => (match ls[j]? with | some (.double a) => nx (pc + 2) ls (.double a :: st) bc bs hp | _ => none)
  | .istore_n j, .int x :: st => (match st1 ls j (.int x) with | some ls' => nx (pc + 1) ls' st bc bs hp | none => none)
  | .istore j, .int x :: st => (match st1 ls j (.int x) with | some ls' => nx (pc + 2) ls' st bc bs hp | none => none)
  | .astore_n j, .ref x :: st => (match st1 ls j (.ref x) with | some ls' => nx (pc + 1) ls' st bc bs hp | none => none)
  | .astore j, .ref x :: st => (match st1 ls j (.ref x) with | some ls' => nx (pc + 2) ls' st bc bs hp | none => none)
  | .fstore_n j, .float x :: st => (match st1 ls j (.float x) with | some ls' => nx (pc + 1) ls' st bc bs hp | none => none)
  | .fstore j, .float x :: st => (match st1 ls j (.float x) with | some ls' => nx (pc + 2) ls' st bc bs hp | none => none)
  | .lstore_n j, .long x :: st => (match st2 ls j (.long x) with | some ls' => nx (pc + 1) ls' st bc bs hp | none => none)
  | .dstore_n j, .double x :: st => (match st2 ls j (.double x) with | some ls' => nx (pc + 1) ls' st bc bs hp | none => none)
  | .dstore j, .double x :: st => (match st2 ls j (.double x) with | some ls' => nx (pc + 2) ls' st bc bs hp | none => none)
  | .iinc j n, st => (match ls[j]? with | some (.int x) => (match st1 ls j (.int (x + Int32.ofInt n)) with | some ls' => nx (pc + 3) ls' st bc bs hp | none => none) | _ => none)
  | .iconst n, st => nx (pc + 1) ls (.int (Int32.ofInt n) :: st) bc bs hp
  | .bipush n, st => nx (pc + 2) ls (.int (Int8.ofInt n).toInt32 :: st) bc bs hp
  | .sipush n, st => nx (pc + 3) ls (.int (Int16.ofInt n).toInt32 :: st) bc bs hp
  | .lconst n, st => nx (pc + 1) ls (.long (Int64.ofNat (n : Nat)) :: st) bc bs hp
  | .fconst 0, st => nx (pc + 1) ls (.float FP.fconst0 :: st) bc bs hp
  | .fconst 2, st => nx (pc + 1) ls (.float FP.fconst2 :: st) bc bs hp
  | .dconst 0, st => nx (pc + 1) ls (.double FP.dconst0 :: st) bc bs hp
  | .dconst 1, st => nx (pc + 1) ls (.double FP.dconst1 :: st) bc bs hp
  | .ldc x, st => (match ldcOf k x with | some (.float v) => nx (pc + 2) ls (.float v :: st) bc bs hp | some (.int v) => nx (pc + 2) ls (.int v :: st) bc bs hp | _ => none)
  | .ldc2_w x, st => (match ldcOf k x with | some (.double v) => nx (pc + 3) ls (.double v :: st) bc bs hp | _ => none)
  | .dup, v :: st => if v.category = 1 then nx (pc + 1) ls (v :: v :: st) bc bs hp else none
  | .pop, v :: st => if v.category = 1 then nx (pc + 1) ls st bc bs hp else none
  | .dup2, v :: w :: st => if v.category = 1 ∧ w.category = 1 then nx (pc + 1) ls (v :: w :: v :: w :: st) bc bs hp else none
  | .iadd, .int y :: .int x :: st => nx (pc + 1) ls (.int (x + y) :: st) bc bs hp
  | .isub, .int y :: .int x :: st => nx (pc + 1) ls (.int (x - y) :: st) bc bs hp
  | .imul, .int y :: .int x :: st => nx (pc + 1) ls (.int (x * y) :: st) bc bs hp
  | .iand, .int y :: .int x :: st => nx (pc + 1) ls (.int (x &&& y) :: st) bc bs hp
  | .ishl, .int y :: .int x :: st => nx (pc + 1) ls (.int (x <<< (y &&& 31)) :: st) bc bs hp
  | .idiv, .int y :: .int x :: st => if y = 0 then none else nx (pc + 1) ls (.int (x / y) :: st) bc bs hp
  | .irem, .int y :: .int x :: st => if y = 0 then none else nx (pc + 1) ls (.int (x - x / y * y) :: st) bc bs hp
  | .ineg, .int x :: st => nx (pc + 1) ls (.int (-x) :: st) bc bs hp
  | .ladd, .long y :: .long x :: st => nx (pc + 1) ls (.long (x + y) :: st) bc bs hp
  | .lcmp, .long y :: .long x :: st => nx (pc + 1) ls (.int (lg_cmp x y) :: st) bc bs hp
  | .i2l, .int x :: st => nx (pc + 1) ls (.long x.toInt64 :: st) bc bs hp
  | .i2c, .int x :: st => nx (pc + 1) ls (.int (x.toUInt32 % 65536).toInt32 :: st) bc bs hp
  | .i2f, .int x :: st => nx (pc + 1) ls (.float (FP.i2f x) :: st) bc bs hp
  | .i2d, .int x :: st => nx (pc + 1) ls (.double (FP.i2d x) :: st) bc bs hp
  | .f2i, .float x :: st => nx (pc + 1) ls (.int (FP.f2i x) :: st) bc bs hp
  | .d2i, .double x :: st => nx (pc + 1) ls (.int (FP.d2i x) :: st) bc bs hp
  | .f2d, .float x :: st => if nn64 (FP.f2d x) = true then nx (pc + 1) ls (.double (FP.f2d x) :: st) bc bs hp else none
  | .fadd, .float y :: .float x :: st => if nn32 (FP.fadd x y) = true then nx (pc + 1) ls (.float (FP.fadd x y) :: st) bc bs hp else none
  | .fsub, .float y :: .float x :: st => if nn32 (FP.fsub x y) = true then nx (pc + 1) ls (.float (FP.fsub x y) :: st) bc bs hp else none
  | .fmul, .float y :: .float x :: st => if nn32 (FP.fmul x y) = true then nx (pc + 1) ls (.float (FP.fmul x y) :: st) bc bs hp else none
  | .fdiv, .float y :: .float x :: st => if nn32 (FP.fdiv x y) = true then nx (pc + 1) ls (.float (FP.fdiv x y) :: st) bc bs hp else none
  | .dmul, .double y :: .double x :: st => if nn64 (FP.dmul x y) = true then nx (pc + 1) ls (.double (FP.dmul x y) :: st) bc bs hp else none
  | .ddiv, .double y :: .double x :: st => if nn64 (FP.ddiv x y) = true then nx (pc + 1) ls (.double (FP.ddiv x y) :: st) bc bs hp else none
  | .fcmp o, .float y :: .float x :: st => nx (pc + 1) ls (.int (Op.cmpValue (FP.fcmp x y) o) :: st) bc bs hp
  | .dcmp o, .double y :: .double x :: st => nx (pc + 1) ls (.int (Op.cmpValue (FP.dcmp x y) o) :: st) bc bs hp
  | .goto off, st => (match jmp pc off with | some t => nx t ls st bc bs hp | none => none)
  | .ifCond c off, .int x :: st => br (icndB c x 0 = true) pc off ls st bc bs hp
  | .if_icmp c off, .int y :: .int x :: st => br (icndB c x y = true) pc off ls st bc bs hp
  | .tableswitch d lo hi offs, .int x :: st =>
    if x.toInt < lo ∨ hi < x.toInt then (match jmp pc d with | some t => nx t ls st bc bs hp | none => none)
    else (match offs[(x.toInt - lo).toNat]? with | some off => (match jmp pc off with | some t => nx t ls st bc bs hp | none => none) | none => none)
  | .getfield x, .ref a :: st => (match fldOf k x with
    | some (ci, j) => (match isObj hp a ci with
      | some fs => (match fs[j]? with | some v => nx (pc + 3) ls (v :: st) bc bs hp | none => none)
      | none => none)
    | none => none)
  | .putfield x, v :: .ref a :: st => (match fldOf k x with
    | some (ci, j) => (match isObj hp a ci with
      | some fs => if j < fs.length ∧ putOK k ci j v = true then nx (pc + 3) ls st bc bs (setHp hp a (.inr (ci, fs.set j v))) else none
      | none => none)
    | none => none)
  | .iaload, .int i :: .ref a :: st => (match hp.2 a with
    | .inl (t, n, .inl f) => if t = 0 ∧ a ≤ hp.1 ∧ ¬ (i < 0 ∨ n ≤ i.toNatClampNeg) then nx (pc + 1) ls (.int (f i.toNatClampNeg) :: st) bc bs hp else none
    | _ => none)
  | .baload, .int i :: .ref a :: st => (match hp.2 a with
    | .inl (t, n, .inl f) => if t = 2 ∧ 1 ≤ a ∧ a ≤ hp.1 ∧ ¬ (i < 0 ∨ n ≤ i.toNatClampNeg) then nx (pc + 1) ls (.int (f i.toNatClampNeg) :: st) bc bs hp else none
    | _ => none)
  | .faload, .int i :: .ref a :: st => (match hp.2 a with
    | .inl (t, n, .inr (.inr (.inl f))) => if t = 1 ∧ 1 ≤ a ∧ a ≤ hp.1 ∧ ¬ (i < 0 ∨ n ≤ i.toNatClampNeg) then nx (pc + 1) ls (.float (f i.toNatClampNeg) :: st) bc bs hp else none
    | _ => none)
  | .laload, .int i :: .ref a :: st => (match hp.2 a with
    | .inl (t, n, .inr (.inl f)) => if t = 3 ∧ 1 ≤ a ∧ a ≤ hp.1 ∧ ¬ (i < 0 ∨ n ≤ i.toNatClampNeg) then nx (pc + 1) ls (.long (f i.toNatClampNeg) :: st) bc bs hp else none
    | _ => none)
  | .daload, .int i :: .ref a :: st => (match hp.2 a with
    | .inl (t, n, .inr (.inr (.inr (.inl f)))) => if t = 4 ∧ 1 ≤ a ∧ a ≤ hp.1 ∧ ¬ (i < 0 ∨ n ≤ i.toNatClampNeg) then nx (pc + 1) ls (.double (f i.toNatClampNeg) :: st) bc bs hp else none
    | _ => none)
  | .aaload, .int i :: .ref a :: st => (match hp.2 a with
    | .inl (t, n, .inr (.inr (.inr (.inr f)))) => if (5 ≤ t ∧ t ≤ 8) ∧ 1 ≤ a ∧ a ≤ hp.1 ∧ ¬ (i < 0 ∨ n ≤ i.toNatClampNeg) then (match f i.toNatClampNeg with | some r => nx (pc + 1) ls (.ref r :: st) bc bs hp | none => none) else none
    | _ => none)
  | .iastore, .int x :: .int i :: .ref a :: st => (match hp.2 a with
    | .inl (t, n, .inl f) => if t = 0 ∧ 1 ≤ a ∧ a ≤ hp.1 ∧ ¬ (i < 0 ∨ n ≤ i.toNatClampNeg) then nx (pc + 1) ls st bc bs (setHp hp a (.inl (t, n, .inl (upd f i.toNatClampNeg x)))) else none
    | _ => none)
  | .bastore, .int x :: .int i :: .ref a :: st => (match hp.2 a with
    | .inl (t, n, .inl f) => if t = 2 ∧ 1 ≤ a ∧ a ≤ hp.1 ∧ ¬ (i < 0 ∨ n ≤ i.toNatClampNeg) then nx (pc + 1) ls st bc bs (setHp hp a (.inl (t, n, .inl (upd f i.toNatClampNeg (vp_nar .boolean x))))) else none
    | _ => none)
  | .fastore, .float x :: .int i :: .ref a :: st => (match hp.2 a with
    | .inl (t, n, .inr (.inr (.inl f))) => if t = 1 ∧ 1 ≤ a ∧ a ≤ hp.1 ∧ ¬ (i < 0 ∨ n ≤ i.toNatClampNeg) then nx (pc + 1) ls st bc bs (setHp hp a (.inl (t, n, .inr (.inr (.inl (vf_upd f i.toNatClampNeg x)))))) else none
    | _ => none)
  | .lastore, .long x :: .int i :: .ref a :: st => (match hp.2 a with
    | .inl (t, n, .inr (.inl f)) => if t = 3 ∧ 1 ≤ a ∧ a ≤ hp.1 ∧ ¬ (i < 0 ∨ n ≤ i.toNatClampNeg) then nx (pc + 1) ls st bc bs (setHp hp a (.inl (t, n, .inr (.inl (vp_updL f i.toNatClampNeg x))))) else none
    | _ => none)
  | .dastore, .double x :: .int i :: .ref a :: st => (match hp.2 a with
    | .inl (t, n, .inr (.inr (.inr (.inl f)))) => if t = 4 ∧ 1 ≤ a ∧ a ≤ hp.1 ∧ ¬ (i < 0 ∨ n ≤ i.toNatClampNeg) then nx (pc + 1) ls st bc bs (setHp hp a (.inl (t, n, .inr (.inr (.inr (.inl (vf_upd f i.toNatClampNeg x))))))) else none
    | _ => none)
  | .aastore, .ref v :: .int i :: .ref a :: st => (match hp.2 a, hp.2 v with
    | .inl (t, n, .inr (.inr (.inr (.inr f)))), .inr (ci, _) => if arTag ci = some t ∧ (1 ≤ v ∧ v ≤ hp.1) ∧ 1 ≤ a ∧ a ≤ hp.1 ∧ ¬ (i < 0 ∨ n ≤ i.toNatClampNeg) then nx (pc + 1) ls st bc bs (setHp hp a (.inl (t, n, .inr (.inr (.inr (.inr (va_up f i.toNatClampNeg (some v)))))))) else none
    | _, _ => none)
  | .arraylength, .ref a :: st => (match hp.2 a with
    | .inl (t, n, _) => if t ≤ 8 ∧ (a = 0 → t = 0) ∧ a ≤ hp.1 then nx (pc + 1) ls (.int (Int32.ofNat n) :: st) bc bs hp else none
    | _ => none)
  | .new x, st => (match newOf k x with
    | some (0, ci) => if ci < 9 ∧ 1 ≤ bc ∧ nF ci ≤ bs then nx (pc + 3) ls (.ref (hp.1 + 1) :: st) (bc - 1) (bs - nF ci) (addHp hp (.inr (ci, dflt ci))) else none
    | some (1, e) => if throwAt k pc x = true ∧ mH k = [] ∧ 1 ≤ bc ∧ 6 ≤ bs ∧ nsum st ≤ 8 then some (.inr (.inl (.inr e))) else none
    | _ => none)
  | .newarray ty, .int n :: st => (match newA (atTag ty) n.toNatClampNeg with
    | some a0 => if ¬ n < 0 ∧ n.toNatClampNeg ≤ 65536 ∧ 1 ≤ bc ∧ n.toNatClampNeg ≤ bs then nx (pc + 2) ls (.ref (hp.1 + 1) :: st) (bc - 1) (bs - n.toNatClampNeg) (addHp hp (.inl (atTag ty, a0))) else none
    | none => none)
  | .anewarray x, .int n :: st => (match newOf k x with
    | some (0, ci) => (match arTag ci with
      | some t => if ¬ n < 0 ∧ n.toNatClampNeg ≤ 65536 ∧ 1 ≤ bc ∧ n.toNatClampNeg ≤ bs then nx (pc + 3) ls (.ref (hp.1 + 1) :: st) (bc - 1) (bs - n.toNatClampNeg) (addHp hp (.inl (t, n.toNatClampNeg, .inr (.inr (.inr (.inr (fun _ => none))))))) else none
      | none => none)
    | _ => none)
  | .ireturn, [.int x] => if outI k x = true then retO (some (.int x)) else none
  | .lreturn, [.long x] => if mR k = some .long then retO (some (.long x)) else none
  | .freturn, [.float x] => if mR k = some .float then retO (some (.float x)) else none
  | .dreturn, [.double x] => if mR k = some .double then retO (some (.double x)) else none
  | .areturn, [.ref x] => (match mR k with | some (.object _) => retO (some (.ref x)) | _ => none)
  | .return_, [] => if mR k = none then retO none else none
  | .invokevirtual x, st => (match calOf k x with
    | some (0, k') => (match st[mA k']? with
      | some (.ref b) => if (isObj hp b (mO k')).isSome = true then callO k' (st.take (mA k' + 1)).reverse (st.drop (mA k' + 1)) else none
      | _ => none)
    | _ => none)
  | .invokespecial x, st => (match calOf k x with
    | some (3, k') => (match st[mA k']? with | some (.ref _) => callO k' (st.take (mA k' + 1)).reverse (st.drop (mA k' + 1)) | _ => none)
    | some (4, k') => (match st[mA k']? with | some (.ref _) => callO k' (st.take (mA k' + 1)).reverse (st.drop (mA k' + 1)) | _ => none)
    | some (6, _) => (match st with | .ref _ :: st => if nsum st ≤ 8 then nx (pc + 3) ls st bc bs hp else none | _ => none)
    | _ => none)
  | .invokestatic x, st => (match calOf k x with
    | some (1, k') => if mA k' ≤ st.length then callO k' (st.take (mA k')).reverse (st.drop (mA k')) else none
    | some (2, k') => if mA k' ≤ st.length then callO k' (st.take (mA k')).reverse (st.drop (mA k')) else none
    | some (5, k') => if mA k' ≤ st.length then callO k' (st.take (mA k')).reverse (st.drop (mA k')) else none
    | some (7, _) => (match st with | .int a :: st => if nsum st ≤ 8 then nx (pc + 3) ls (.int (if 0 ≤ a then a else 0 - a) :: st) bc bs hp else none | _ => none)
    | some (8, _) => (match st with
      | .int n :: .int dp :: .ref a :: .int sp :: .ref a0 :: st => (match hp.2 a0, hp.2 a with
        | .inl (t0, n0, .inl f), .inl (t1, n1, .inl g) => if (t0 = 0 ∧ t1 = 0) ∧ (1 ≤ a0 ∧ a0 ≤ hp.1) ∧ (1 ≤ a ∧ a ≤ hp.1) ∧ ¬ sp < 0 ∧ ¬ dp < 0 ∧ ¬ n < 0 ∧ sp.toNatClampNeg + n.toNatClampNeg ≤ n0 ∧ dp.toNatClampNeg + n.toNatClampNeg ≤ n1 ∧ nsum st ≤ 8 then nx (pc + 3) ls st bc bs (setHp hp a (.inl (t1, n1, .inl (va_cpy f g sp.toNatClampNeg dp.toNatClampNeg n.toNatClampNeg)))) else none
        | _, _ => none)
      | _ => none)
    | some (9, _) => (match st with | .float b :: st => if nsum st ≤ 8 then nx (pc + 3) ls (.int b.toInt32 :: st) bc bs hp else none | _ => none)
    | _ => none)
  | _, _ => none
def iniL (k : Nat) (as : List Value) : List Value := as ++ List.replicate (mL k - as.length) .null
def callOK (k k' : Nat) (as rest : List Value) (bc bs : Nat) : Bool := decide (hgt k' < hgt k) && (decide (k' < 233) && (decide (mcT k' ≤ bc) && (decide (msT k' ≤ bs) && (decide (nsum rest ≤ 8) && (as.all (fun v => decide (v.category = 1)) && decide (as.length ≤ mL k'))))))
def hndF (k pc e : Nat) : List (Nat × Nat × Nat × Nat) → Option Nat
  | [] => none
  | r :: rs => if r.1 ≤ pc ∧ pc < r.2.1 then (match newOf k r.2.2.2 with | some (1, e') => if e' = e then some r.2.2.1 else hndF k pc e rs | _ => none) else hndF k pc e rs
def hst (k h : Nat) : Option (Nat × Nat) := match ins k h with
  | some (.astore_n j) => some (h + 1, (j : Nat))
  | some (.astore j) => some (h + 2, j)
  | _ => none
def go : Nat → Nat → Nat → List Value → List Value → Nat → Nat → Hp → Option (Out × Hp)
  | 0, _, _, _, _, _, _, _ => none
  | n + 1, k, pc, ls, st, bc, bs, hp => match ins k pc with
    | none => none
    | some i => (match act k i pc ls st bc bs hp with
      | none => none
      | some (.inl (pc', ls', st', bc', bs', hp')) => go n k pc' ls' st' bc' bs' hp'
      | some (.inr (.inl o)) => some (o, hp)
      | some (.inr (.inr (k', as, rest))) => if callOK k k' as rest bc bs = true then (match go n k' 0 (iniL k' as) [] (mcT k') (msT k') hp with
          | none => none
          | some (.inl v, hp') => go n k (pc + 3) ls (v.toList ++ rest) (bc - mcT k') (bs - msT k') hp'
          | some (.inr e, hp') => (match mH k with
            | [] => some (.inr e, hp')
            | r :: rs => (match hndF k pc e (r :: rs) with
              | none => none
              | some h => (match hst k h with
                | none => none
                | some (pc2, j) => if j < ls.length ∧ pok ls j = true then go n k pc2 (ls.set j .null) [] (bc - mcT k') (bs - msT k') hp' else none))))
        else none)
end
section
/-- the run from here comes to an end with Q -/
def Go (k pc : Nat) (ls st : List Value) (bc bs : Nat) (hp : Hp) (Q : Out → Hp → Prop) : Prop := ∃ (n : Nat) (o : Out × Hp), go n k pc ls st bc bs hp = some o ∧ Q o.1 o.2
def Call (k : Nat) (as : List Value) (hp : Hp) (Q : Out → Hp → Prop) : Prop := Go k 0 (iniL k as) [] (mcT k) (msT k) hp Q
section GoLaws
variable {k pc k' pc' : Nat} {ls st ls' st' as rest : List Value} {bc bs bc' bs' : Nat} {hp hp' : Hp} {Q : Out → Hp → Prop} {i : Instr} {o : Out}
theorem go_next (n : Nat) (hi : ins k pc = some i) (ha : act k i pc ls st bc bs hp = some (.inl (pc', ls', st', bc', bs', hp'))) : go (n + 1) k pc ls st bc bs hp = go n k pc' ls' st' bc' bs' hp' := by
  simp only [go, hi, ha]
theorem go_mono : ∀ (n k pc : Nat) (ls st : List Value) (bc bs : Nat) (hp : Hp) (r : Out × Hp), go n k pc ls st bc bs hp = some r → go (n + 1) k pc ls st bc bs hp = some r := by
  intro n
  induction n with
  | zero => intro k pc ls st bc bs hp r h; exact absurd h (by simp [go])
  | succ n ih =>
    intro k pc ls st bc bs hp r h
    rw [go] at h ⊢
    cases hi : ins k pc with
    | none => rw [hi] at h; exact absurd h (by simp)
    | some i =>
      rw [hi] at h
      dsimp only at h ⊢
      cases ha : act k i pc ls st bc bs hp with
      | none => rw [ha] at h; exact absurd h (by simp)
      | some x =>
        rw [ha] at h
        rcases x with ⟨pc', ls', st', bc', bs', hp'⟩ | o | ⟨k', as, rest⟩
        · exact ih _ _ _ _ _ _ _ _ h
        · exact h
        · dsimp only at h ⊢
          by_cases hc : callOK k k' as rest bc bs = true
          · rw [if_pos hc] at h ⊢
            cases h1 : go n k' 0 (iniL k' as) [] (mcT k') (msT k') hp with
            | none => rw [h1] at h; exact absurd h (by simp)
            | some y =>
              rw [h1] at h
              rw [ih _ _ _ _ _ _ _ _ h1]
              rcases y with ⟨v | e, hp'⟩
              · exact ih _ _ _ _ _ _ _ _ h
              · dsimp only at h ⊢
                cases hm : mH k with
                | nil => rw [hm] at h; exact h
                | cons r0 rs =>
                  rw [hm] at h
                  dsimp only at h ⊢
                  cases hh : hndF k pc e (r0 :: rs) with
                  | none => rw [hh] at h; exact absurd h (by simp)
                  | some hd =>
                    rw [hh] at h
                    dsimp only at h ⊢
                    cases hs : hst k hd with
                    | none => rw [hs] at h; exact absurd h (by simp)
                    | some w =>
                      rw [hs] at h
                      rcases w with ⟨pc2, j⟩
                      dsimp only at h ⊢
                      by_cases hj : j < ls.length ∧ pok ls j = true
                      · rw [if_pos hj] at h ⊢
                        exact ih _ _ _ _ _ _ _ _ h
                      · rw [if_neg hj] at h
                        exact absurd h (by simp)
          · rw [if_neg hc] at h
            exact absurd h (by simp)
theorem go_le {n m : Nat} (hnm : n ≤ m) {r : Out × Hp} (h : go n k pc ls st bc bs hp = some r) : go m k pc ls st bc bs hp = some r := by
  induction m with
  | zero => rw [show n = 0 by omega] at h; exact h
  | succ m ih =>
    by_cases hm : n = m + 1
    · rw [← hm]; exact h
    · exact go_mono m _ _ _ _ _ _ _ _ (ih (by omega))
theorem Go_next (hi : ins k pc = some i) (ha : act k i pc ls st bc bs hp = some (.inl (pc', ls', st', bc', bs', hp'))) : Go k pc ls st bc bs hp Q ↔ Go k pc' ls' st' bc' bs' hp' Q := by
  constructor
  · rintro ⟨n, r, h, q⟩
    cases n with
    | zero => exact absurd h (by simp [go])
    | succ n => exact ⟨n, r, by rw [← go_next n hi ha]; exact h, q⟩
  · rintro ⟨n, r, h, q⟩
    exact ⟨n + 1, r, by rw [go_next n hi ha]; exact h, q⟩
theorem Go_ret (hi : ins k pc = some i) (ha : act k i pc ls st bc bs hp = some (.inr (.inl o))) : Go k pc ls st bc bs hp Q ↔ Q o hp := by
  constructor
  · rintro ⟨n, r, h, q⟩
    cases n with
    | zero => exact absurd h (by simp [go])
    | succ n =>
      simp only [go, hi, ha, Option.some.injEq] at h
      subst h
      exact q
  · intro q
    exact ⟨1, (o, hp), by simp only [go, hi, ha], q⟩
theorem Go_stuck (hi : ins k pc = some i) (ha : act k i pc ls st bc bs hp = none) : ¬ Go k pc ls st bc bs hp Q := by
  rintro ⟨n, r, h, q⟩
  cases n with
  | zero => exact absurd h (by simp [go])
  | succ n => simp [go, hi, ha] at h
theorem Go_if {c : Prop} [Decidable c] {A B : Cfg} (hi : ins k pc = some i) (ha : act k i pc ls st bc bs hp = if c then some (.inl A) else some (.inl B)) : Go k pc ls st bc bs hp Q ↔ (c → Go k A.1 A.2.1 A.2.2.1 A.2.2.2.1 A.2.2.2.2.1 A.2.2.2.2.2 Q) ∧ (¬ c → Go k B.1 B.2.1 B.2.2.1 B.2.2.2.1 B.2.2.2.2.1 B.2.2.2.2.2 Q) := by
  by_cases hc : c
  · rw [if_pos hc] at ha
    rw [Go_next hi ha]
    exact ⟨fun h => ⟨fun _ => h, fun n => absurd hc n⟩, fun h => h.1 hc⟩
  · rw [if_neg hc] at ha
    rw [Go_next hi ha]
    exact ⟨fun h => ⟨fun n => absurd n hc, fun _ => h⟩, fun h => h.2 hc⟩
/-- on with it if c holds -/
theorem Go_on {c : Prop} [Decidable c] (hi : ins k pc = some i) (ha : act k i pc ls st bc bs hp = if c then some (.inl (pc', ls', st', bc', bs', hp')) else none) : Go k pc ls st bc bs hp Q ↔ c ∧ Go k pc' ls' st' bc' bs' hp' Q := by
  by_cases hc : c
  · rw [if_pos hc] at ha
    rw [Go_next hi ha]
    exact ⟨fun h => ⟨hc, h⟩, fun h => h.2⟩
  · rw [if_neg hc] at ha
    exact ⟨fun h => absurd h (Go_stuck hi ha), fun h => absurd h.1 hc⟩
theorem Go_retIf {c : Prop} [Decidable c] (hi : ins k pc = some i) (ha : act k i pc ls st bc bs hp = if c then some (.inr (.inl o)) else none) : Go k pc ls st bc bs hp Q ↔ c ∧ Q o hp := by
  by_cases hc : c
  · rw [if_pos hc] at ha
    rw [Go_ret hi ha]
    exact ⟨fun h => ⟨hc, h⟩, fun h => h.2⟩
  · rw [if_neg hc] at ha
    exact ⟨fun h => absurd h (Go_stuck hi ha), fun h => absurd h.1 hc⟩
/-- behind a call -/
def Aft (k pc : Nat) (ls rest : List Value) (bc bs : Nat) (Q : Out → Hp → Prop) : Out → Hp → Prop := fun o hp => match o with
  | .inl v => Go k pc ls (v.toList ++ rest) bc bs hp Q
  | .inr e => Q (.inr e) hp
theorem Aft_some {v : Value} {hp : Hp} : Aft k pc ls rest bc bs Q (.inl (some v)) hp = Go k pc ls (v :: rest) bc bs hp Q := rfl
theorem Aft_none {hp : Hp} : Aft k pc ls rest bc bs Q (.inl none) hp = Go k pc ls rest bc bs hp Q := rfl
theorem Aft_thr {e : Nat} {hp : Hp} : Aft k pc ls rest bc bs Q (.inr e) hp = Q (.inr e) hp := rfl
def AftH (k pc hpc : Nat) (ls rest : List Value) (bc bs : Nat) (Q : Out → Hp → Prop) : Out → Hp → Prop := fun o hp => match o with
  | .inl v => Go k pc ls (v.toList ++ rest) bc bs hp Q
  | .inr e => (match hndF k hpc e (mH k) with
    | none => False
    | some h => (match hst k h with
      | none => False
      | some (pc2, j) => (j < ls.length ∧ pok ls j = true) ∧ Go k pc2 (ls.set j .null) [] bc bs hp Q))
theorem AftH_some {hpc : Nat} {v : Value} {hp : Hp} : AftH k pc hpc ls rest bc bs Q (.inl (some v)) hp = Go k pc ls (v :: rest) bc bs hp Q := rfl
theorem AftH_none {hpc : Nat} {hp : Hp} : AftH k pc hpc ls rest bc bs Q (.inl none) hp = Go k pc ls rest bc bs hp Q := rfl
theorem Go_call (hi : ins k pc = some i) (ha : act k i pc ls st bc bs hp = some (.inr (.inr (k', as, rest)))) (hh : mH k = []) : Go k pc ls st bc bs hp Q ↔ callOK k k' as rest bc bs = true ∧ Call k' as hp (Aft k (pc + 3) ls rest (bc - mcT k') (bs - msT k') Q) := by
  constructor
  · rintro ⟨n, r, h, q⟩
    cases n with
    | zero => exact absurd h (by simp [go])
    | succ n =>
      simp only [go, hi, ha] at h
      by_cases hc : callOK k k' as rest bc bs = true
      · rw [if_pos hc] at h
        refine ⟨hc, ?_⟩
        cases h1 : go n k' 0 (iniL k' as) [] (mcT k') (msT k') hp with
        | none => rw [h1] at h; exact absurd h (by simp)
        | some y =>
          rw [h1] at h
          refine ⟨n, y, h1, ?_⟩
          rcases y with ⟨v | e, hp'⟩
          · exact ⟨n, r, h, q⟩
          · simp only [hh, Option.some.injEq] at h
            subst h
            exact q
      · rw [if_neg hc] at h
        exact absurd h (by simp)
  · rintro ⟨hc, n, y, h1, q⟩
    rcases y with ⟨v | e, hp'⟩
    · obtain ⟨m, r, h2, q2⟩ := q
      refine ⟨max n m + 1, r, ?_, q2⟩
      simp only [go, hi, ha, if_pos hc, go_le (Nat.le_max_left n m) h1]
      exact go_le (Nat.le_max_right n m) h2
    · exact ⟨n + 1, (.inr e, hp'), by simp only [go, hi, ha, if_pos hc, h1, hh], q⟩
theorem Go_callH {r0 : Nat × Nat × Nat × Nat} {rs : List (Nat × Nat × Nat × Nat)} (hi : ins k pc = some i) (ha : act k i pc ls st bc bs hp = some (.inr (.inr (k', as, rest)))) (hh : mH k = r0 :: rs) : Go k pc ls st bc bs hp Q ↔ callOK k k' as rest bc bs = true ∧ Call k' as hp (AftH k (pc + 3) pc ls rest (bc - mcT k') (bs - msT k') Q) := by
  constructor
  · rintro ⟨n, r, h, q⟩
    cases n with
    | zero => exact absurd h (by simp [go])
    | succ n =>
      simp only [go, hi, ha] at h
      by_cases hc : callOK k k' as rest bc bs = true
      · rw [if_pos hc] at h
        refine ⟨hc, ?_⟩
        cases h1 : go n k' 0 (iniL k' as) [] (mcT k') (msT k') hp with
        | none => rw [h1] at h; exact absurd h (by simp)
        | some y =>
          rw [h1] at h
          refine ⟨n, y, h1, ?_⟩
          rcases y with ⟨v | e, hp'⟩
          · exact ⟨n, r, h, q⟩
          · simp only [hh] at h
            simp only [AftH, hh]
            cases h2 : hndF k pc e (r0 :: rs) with
            | none => rw [h2] at h; exact absurd h (by simp)
            | some hd =>
              rw [h2] at h
              dsimp only at h ⊢
              cases h3 : hst k hd with
              | none => rw [h3] at h; exact absurd h (by simp)
              | some w =>
                rw [h3] at h
                rcases w with ⟨pc2, j⟩
                dsimp only at h ⊢
                by_cases hj : j < ls.length ∧ pok ls j = true
                · rw [if_pos hj] at h
                  exact ⟨hj, n, r, h, q⟩
                · rw [if_neg hj] at h
                  exact absurd h (by simp)
      · rw [if_neg hc] at h
        exact absurd h (by simp)
  · rintro ⟨hc, n, y, h1, q⟩
    rcases y with ⟨v | e, hp'⟩
    · obtain ⟨m, r, h2, q2⟩ := q
      refine ⟨max n m + 1, r, ?_, q2⟩
      simp only [go, hi, ha, if_pos hc, go_le (Nat.le_max_left n m) h1]
      exact go_le (Nat.le_max_right n m) h2
    · simp only [AftH, hh] at q
      cases h2 : hndF k pc e (r0 :: rs) with
      | none => rw [h2] at q; exact absurd q (by simp)
      | some hd =>
        rw [h2] at q
        dsimp only at q
        cases h3 : hst k hd with
        | none => rw [h3] at q; exact absurd q (by simp)
        | some w =>
          rw [h3] at q
          rcases w with ⟨pc2, j⟩
          dsimp only at q
          obtain ⟨hj, m, r, h4, q2⟩ := q
          refine ⟨max n m + 1, r, ?_, q2⟩
          simp only [go, hi, ha, if_pos hc, go_le (Nat.le_max_left n m) h1, hh, h2, h3, if_pos hj]
          exact go_le (Nat.le_max_right n m) h4
end GoLaws
end
section
/-! rows: an instruction, and what it needs -/
def RdF (hp : Hp) (a ci j : Nat) (K : Value → Prop) : Prop := match isObj hp a ci with
  | some fs => (match fs[j]? with
    | some v => K v
    | none => False)
  | none => False
def WrF (hp : Hp) (a ci j : Nat) (v : Value) (K : Hp → Prop) : Prop := match isObj hp a ci with
  | some fs => j < fs.length ∧ K (setHp hp a (.inr (ci, fs.set j v)))
  | none => False
def RdA (hp : Hp) (a t : Nat) (i : Int32) (K : Int32 → Prop) : Prop := match hp.2 a with
  | .inl (t', n, .inl f) => (t' = t ∧ (t = 0 ∨ 1 ≤ a) ∧ a ≤ hp.1) ∧ vp_in i n ∧ K (f i.toNatClampNeg)
  | _ => False
def WrA (hp : Hp) (a t : Nat) (i x : Int32) (K : Hp → Prop) : Prop := match hp.2 a with
  | .inl (t', n, .inl f) => (t' = t ∧ 1 ≤ a ∧ a ≤ hp.1) ∧ vp_in i n ∧ K (setHp hp a (.inl (t', n, .inl (upd f i.toNatClampNeg x))))
  | _ => False
def RdN (hp : Hp) (a : Nat) (i : Int32) (K : UInt32 → Prop) : Prop := match hp.2 a with
  | .inl (t', n, .inr (.inr (.inl f))) => (t' = 1 ∧ 1 ≤ a ∧ a ≤ hp.1) ∧ vp_in i n ∧ K (f i.toNatClampNeg)
  | _ => False
def WrN (hp : Hp) (a : Nat) (i : Int32) (x : UInt32) (K : Hp → Prop) : Prop := match hp.2 a with
  | .inl (t', n, .inr (.inr (.inl f))) => (t' = 1 ∧ 1 ≤ a ∧ a ≤ hp.1) ∧ vp_in i n ∧ K (setHp hp a (.inl (t', n, .inr (.inr (.inl (vf_upd f i.toNatClampNeg x))))))
  | _ => False
def RdL (hp : Hp) (a : Nat) (i : Int32) (K : Int64 → Prop) : Prop := match hp.2 a with
  | .inl (t', n, .inr (.inl f)) => (t' = 3 ∧ 1 ≤ a ∧ a ≤ hp.1) ∧ vp_in i n ∧ K (f i.toNatClampNeg)
  | _ => False
def WrL (hp : Hp) (a : Nat) (i : Int32) (x : Int64) (K : Hp → Prop) : Prop := match hp.2 a with
  | .inl (t', n, .inr (.inl f)) => (t' = 3 ∧ 1 ≤ a ∧ a ≤ hp.1) ∧ vp_in i n ∧ K (setHp hp a (.inl (t', n, .inr (.inl (vp_updL f i.toNatClampNeg x)))))
  | _ => False
def RdD (hp : Hp) (a : Nat) (i : Int32) (K : UInt64 → Prop) : Prop := match hp.2 a with
  | .inl (t', n, .inr (.inr (.inr (.inl f)))) => (t' = 4 ∧ 1 ≤ a ∧ a ≤ hp.1) ∧ vp_in i n ∧ K (f i.toNatClampNeg)
  | _ => False
def WrD (hp : Hp) (a : Nat) (i : Int32) (x : UInt64) (K : Hp → Prop) : Prop := match hp.2 a with
  | .inl (t', n, .inr (.inr (.inr (.inl f)))) => (t' = 4 ∧ 1 ≤ a ∧ a ≤ hp.1) ∧ vp_in i n ∧ K (setHp hp a (.inl (t', n, .inr (.inr (.inr (.inl (vf_upd f i.toNatClampNeg x)))))))
  | _ => False
def RdQ (hp : Hp) (a : Nat) (i : Int32) (K : Nat → Prop) : Prop := match hp.2 a with
  | .inl (t', n, .inr (.inr (.inr (.inr f)))) => ((5 ≤ t' ∧ t' ≤ 8) ∧ 1 ≤ a ∧ a ≤ hp.1) ∧ vp_in i n ∧ (match f i.toNatClampNeg with
    | some r => K r
    | none => False)
  | _ => False
def WrQ (hp : Hp) (a : Nat) (i : Int32) (v : Nat) (K : Hp → Prop) : Prop := match hp.2 a, hp.2 v with
  | .inl (t', n, .inr (.inr (.inr (.inr f)))), .inr (ci, _) => (arTag ci = some t' ∧ (1 ≤ v ∧ v ≤ hp.1) ∧ 1 ≤ a ∧ a ≤ hp.1) ∧ vp_in i n ∧ K (setHp hp a (.inl (t', n, .inr (.inr (.inr (.inr (va_up f i.toNatClampNeg (some v))))))))
  | _, _ => False
def RdLen (hp : Hp) (a : Nat) (K : Int32 → Prop) : Prop := match hp.2 a with
  | .inl (t', n, _) => (t' ≤ 8 ∧ (a = 0 → t' = 0) ∧ a ≤ hp.1) ∧ K (Int32.ofNat n)
  | _ => False
def Cpy (hp : Hp) (a0 a : Nat) (sp dp n : Int32) (K : Hp → Prop) : Prop := match hp.2 a0, hp.2 a with
  | .inl (t0, n0, .inl f), .inl (t1, n1, .inl g) => ((t0 = 0 ∧ t1 = 0) ∧ (1 ≤ a0 ∧ a0 ≤ hp.1) ∧ (1 ≤ a ∧ a ≤ hp.1) ∧ ¬ sp < 0 ∧ ¬ dp < 0 ∧ ¬ n < 0 ∧ sp.toNatClampNeg + n.toNatClampNeg ≤ n0 ∧ dp.toNatClampNeg + n.toNatClampNeg ≤ n1) ∧ K (setHp hp a (.inl (t1, n1, .inl (va_cpy f g sp.toNatClampNeg dp.toNatClampNeg n.toNatClampNeg))))
  | _, _ => False
section RowLaws
variable {k pc pc' x ci j m t t2 : Nat} {ls st as rest : List Value} {bc bs : Nat} {hp : Hp} {Q : Out → Hp → Prop} {i : Instr} {o : Out} {v : Value} {a : Nat} {q r : Int32}
theorem Go_ift {c : Prop} [Decidable c] (hi : ins k pc = some i) (ha : act k i pc ls st bc bs hp = if decide c = true then some (.inl (t, ls, rest, bc, bs, hp)) else some (.inl (t2, ls, rest, bc, bs, hp))) : Go k pc ls st bc bs hp Q ↔ (c → Go k t ls rest bc bs hp Q) ∧ (¬ c → Go k t2 ls rest bc bs hp Q) := by
  rw [Go_if (c := decide c = true) hi ha]
  simp only [decide_eq_true_eq]
theorem Go_ifn {c : Prop} [Decidable c] (hi : ins k pc = some i) (ha : act k i pc ls st bc bs hp = if decide (¬ c) = true then some (.inl (t, ls, rest, bc, bs, hp)) else some (.inl (t2, ls, rest, bc, bs, hp))) : Go k pc ls st bc bs hp Q ↔ (¬ c → Go k t ls rest bc bs hp Q) ∧ (c → Go k t2 ls rest bc bs hp Q) := by
  rw [Go_if (c := decide (¬ c) = true) hi ha]
  simp only [decide_eq_true_eq, Classical.not_not]
theorem Go_getf (hi : ins k pc = some (.getfield x)) (hf : fldOf k x = some (ci, j)) : Go k pc ls (.ref a :: st) bc bs hp Q ↔ RdF hp a ci j (fun v => Go k (pc + 3) ls (v :: st) bc bs hp Q) := by
  unfold RdF
  cases h1 : isObj hp a ci with
  | none => exact iff_of_false (Go_stuck hi (by simp only [act, hf, h1])) (fun h => h)
  | some fs =>
    dsimp only
    cases h2 : fs[j]? with
    | none => exact iff_of_false (Go_stuck hi (by simp only [act, hf, h1, h2])) (fun h => h)
    | some v => exact Go_next hi (by simp only [act, hf, h1, h2]; rfl)
theorem Go_putf (hi : ins k pc = some (.putfield x)) (hf : fldOf k x = some (ci, j)) : Go k pc ls (v :: .ref a :: st) bc bs hp Q ↔ putOK k ci j v = true ∧ WrF hp a ci j v (fun hp' => Go k (pc + 3) ls st bc bs hp' Q) := by
  unfold WrF
  cases h1 : isObj hp a ci with
  | none => exact iff_of_false (Go_stuck hi (by simp only [act, hf, h1])) (fun h => h.2)
  | some fs =>
    dsimp only
    rw [Go_on (c := j < fs.length ∧ putOK k ci j v = true) (pc' := pc + 3) (ls' := ls) (st' := st) (bc' := bc) (bs' := bs) (hp' := setHp hp a (.inr (ci, fs.set j v))) hi (by simp only [act, hf, h1]; rfl)]
    exact ⟨fun h => ⟨h.1.2, h.1.1, h.2⟩, fun h => ⟨⟨h.2.1, h.1⟩, h.2.2⟩⟩
theorem Go_puti (hi : ins k pc = some (.putfield x)) (hf : fldOf k x = some (ci, j)) (ho : putOK k ci j v = true) : Go k pc ls (v :: .ref a :: st) bc bs hp Q ↔ WrF hp a ci j v (fun hp' => Go k (pc + 3) ls st bc bs hp' Q) := by
  rw [Go_putf hi hf]
  exact ⟨fun h => h.2, fun h => ⟨ho, h⟩⟩
theorem Go_iald (hi : ins k pc = some .iaload) : Go k pc ls (.int q :: .ref a :: st) bc bs hp Q ↔ RdA hp a 0 q (fun v => Go k (pc + 1) ls (.int v :: st) bc bs hp Q) := by
  unfold RdA
  cases h : hp.2 a with
  | inr y => exact iff_of_false (Go_stuck hi (by simp only [act, h])) (fun h => h)
  | inl y =>
    obtain ⟨t, n, f⟩ := y
    rcases f with f | f
    · dsimp only
      rw [Go_on (c := t = 0 ∧ a ≤ hp.1 ∧ ¬ (q < 0 ∨ n ≤ q.toNatClampNeg)) (pc' := pc + 1) (ls' := ls) (st' := .int (f q.toNatClampNeg) :: st) (bc' := bc) (bs' := bs) (hp' := hp) hi (by simp only [act, h]; rfl)]
      exact ⟨fun h => ⟨⟨h.1.1, Or.inl rfl, h.1.2.1⟩, h.1.2.2, h.2⟩, fun h => ⟨⟨h.1.1, h.1.2.2, h.2.1⟩, h.2.2⟩⟩
    · exact iff_of_false (Go_stuck hi (by simp only [act, h])) (fun h => h)
theorem Go_bald (hi : ins k pc = some .baload) : Go k pc ls (.int q :: .ref a :: st) bc bs hp Q ↔ RdA hp a 2 q (fun v => Go k (pc + 1) ls (.int v :: st) bc bs hp Q) := by
  unfold RdA
  cases h : hp.2 a with
  | inr y => exact iff_of_false (Go_stuck hi (by simp only [act, h])) (fun h => h)
  | inl y =>
    obtain ⟨t, n, f⟩ := y
    rcases f with f | f
    · dsimp only
      rw [Go_on (c := t = 2 ∧ 1 ≤ a ∧ a ≤ hp.1 ∧ ¬ (q < 0 ∨ n ≤ q.toNatClampNeg)) (pc' := pc + 1) (ls' := ls) (st' := .int (f q.toNatClampNeg) :: st) (bc' := bc) (bs' := bs) (hp' := hp) hi (by simp only [act, h]; rfl)]
      refine ⟨fun h => ⟨⟨h.1.1, Or.inr h.1.2.1, h.1.2.2.1⟩, h.1.2.2.2, h.2⟩, fun h => ⟨⟨h.1.1, ?_, h.1.2.2, h.2.1⟩, h.2.2⟩⟩
      rcases h.1.2.1 with h | h
      · exact absurd h (by decide)
      · exact h
    · exact iff_of_false (Go_stuck hi (by simp only [act, h])) (fun h => h)
theorem Go_iast (hi : ins k pc = some .iastore) : Go k pc ls (.int r :: .int q :: .ref a :: st) bc bs hp Q ↔ WrA hp a 0 q r (fun hp' => Go k (pc + 1) ls st bc bs hp' Q) := by
  unfold WrA
  cases h : hp.2 a with
  | inr y => exact iff_of_false (Go_stuck hi (by simp only [act, h])) (fun h => h)
  | inl y =>
    obtain ⟨t, n, f⟩ := y
    rcases f with f | f
    · dsimp only
      rw [Go_on (c := t = 0 ∧ 1 ≤ a ∧ a ≤ hp.1 ∧ ¬ (q < 0 ∨ n ≤ q.toNatClampNeg)) (pc' := pc + 1) (ls' := ls) (st' := st) (bc' := bc) (bs' := bs) (hp' := setHp hp a (.inl (t, n, .inl (upd f q.toNatClampNeg r)))) hi (by simp only [act, h]; rfl)]
      exact ⟨fun h => ⟨⟨h.1.1, h.1.2.1, h.1.2.2.1⟩, h.1.2.2.2, h.2⟩, fun h => ⟨⟨h.1.1, h.1.2.1, h.1.2.2, h.2.1⟩, h.2.2⟩⟩
    · exact iff_of_false (Go_stuck hi (by simp only [act, h])) (fun h => h)
theorem Go_bast (hi : ins k pc = some .bastore) : Go k pc ls (.int r :: .int q :: .ref a :: st) bc bs hp Q ↔ WrA hp a 2 q (vp_nar .boolean r) (fun hp' => Go k (pc + 1) ls st bc bs hp' Q) := by
  unfold WrA
  cases h : hp.2 a with
  | inr y => exact iff_of_false (Go_stuck hi (by simp only [act, h])) (fun h => h)
  | inl y =>
    obtain ⟨t, n, f⟩ := y
    rcases f with f | f
    · dsimp only
      rw [Go_on (c := t = 2 ∧ 1 ≤ a ∧ a ≤ hp.1 ∧ ¬ (q < 0 ∨ n ≤ q.toNatClampNeg)) (pc' := pc + 1) (ls' := ls) (st' := st) (bc' := bc) (bs' := bs) (hp' := setHp hp a (.inl (t, n, .inl (upd f q.toNatClampNeg (vp_nar .boolean r))))) hi (by simp only [act, h]; rfl)]
      exact ⟨fun h => ⟨⟨h.1.1, h.1.2.1, h.1.2.2.1⟩, h.1.2.2.2, h.2⟩, fun h => ⟨⟨h.1.1, h.1.2.1, h.1.2.2, h.2.1⟩, h.2.2⟩⟩
    · exact iff_of_false (Go_stuck hi (by simp only [act, h])) (fun h => h)
theorem Go_fald (hi : ins k pc = some .faload) : Go k pc ls (.int q :: .ref a :: st) bc bs hp Q ↔ RdN hp a q (fun v => Go k (pc + 1) ls (.float v :: st) bc bs hp Q) := by
  unfold RdN
  cases h : hp.2 a with
  | inr y => exact iff_of_false (Go_stuck hi (by simp only [act, h])) (fun h => h)
  | inl y =>
    obtain ⟨t, n, f⟩ := y
    rcases f with f | f | f | f
    · exact iff_of_false (Go_stuck hi (by simp only [act, h])) (fun h => h)
    · exact iff_of_false (Go_stuck hi (by simp only [act, h])) (fun h => h)
    · dsimp only
      rw [Go_on (c := t = 1 ∧ 1 ≤ a ∧ a ≤ hp.1 ∧ ¬ (q < 0 ∨ n ≤ q.toNatClampNeg)) (pc' := pc + 1) (ls' := ls) (st' := .float (f q.toNatClampNeg) :: st) (bc' := bc) (bs' := bs) (hp' := hp) hi (by simp only [act, h]; rfl)]
      exact ⟨fun h => ⟨⟨h.1.1, h.1.2.1, h.1.2.2.1⟩, h.1.2.2.2, h.2⟩, fun h => ⟨⟨h.1.1, h.1.2.1, h.1.2.2, h.2.1⟩, h.2.2⟩⟩
    · exact iff_of_false (Go_stuck hi (by simp only [act, h])) (fun h => h)
theorem Go_fast {r : UInt32} (hi : ins k pc = some .fastore) : Go k pc ls (.float r :: .int q :: .ref a :: st) bc bs hp Q ↔ WrN hp a q r (fun hp' => Go k (pc + 1) ls st bc bs hp' Q) := by
  unfold WrN
  cases h : hp.2 a with
  | inr y => exact iff_of_false (Go_stuck hi (by simp only [act, h])) (fun h => h)
  | inl y =>
    obtain ⟨t, n, f⟩ := y
    rcases f with f | f | f | f
    · exact iff_of_false (Go_stuck hi (by simp only [act, h])) (fun h => h)
    · exact iff_of_false (Go_stuck hi (by simp only [act, h])) (fun h => h)
    · dsimp only
      rw [Go_on (c := t = 1 ∧ 1 ≤ a ∧ a ≤ hp.1 ∧ ¬ (q < 0 ∨ n ≤ q.toNatClampNeg)) (pc' := pc + 1) (ls' := ls) (st' := st) (bc' := bc) (bs' := bs) (hp' := setHp hp a (.inl (t, n, .inr (.inr (.inl (vf_upd f q.toNatClampNeg r)))))) hi (by simp only [act, h]; rfl)]
      exact ⟨fun h => ⟨⟨h.1.1, h.1.2.1, h.1.2.2.1⟩, h.1.2.2.2, h.2⟩, fun h => ⟨⟨h.1.1, h.1.2.1, h.1.2.2, h.2.1⟩, h.2.2⟩⟩
    · exact iff_of_false (Go_stuck hi (by simp only [act, h])) (fun h => h)
theorem Go_lald (hi : ins k pc = some .laload) : Go k pc ls (.int q :: .ref a :: st) bc bs hp Q ↔ RdL hp a q (fun v => Go k (pc + 1) ls (.long v :: st) bc bs hp Q) := by
  unfold RdL
  cases h : hp.2 a with
  | inr y => exact iff_of_false (Go_stuck hi (by simp only [act, h])) (fun h => h)
  | inl y =>
    obtain ⟨t, n, f⟩ := y
    rcases f with f | f | f
    · exact iff_of_false (Go_stuck hi (by simp only [act, h])) (fun h => h)
    · dsimp only
      rw [Go_on (c := t = 3 ∧ 1 ≤ a ∧ a ≤ hp.1 ∧ ¬ (q < 0 ∨ n ≤ q.toNatClampNeg)) (pc' := pc + 1) (ls' := ls) (st' := .long (f q.toNatClampNeg) :: st) (bc' := bc) (bs' := bs) (hp' := hp) hi (by simp only [act, h]; rfl)]
      exact ⟨fun h => ⟨⟨h.1.1, h.1.2.1, h.1.2.2.1⟩, h.1.2.2.2, h.2⟩, fun h => ⟨⟨h.1.1, h.1.2.1, h.1.2.2, h.2.1⟩, h.2.2⟩⟩
    · exact iff_of_false (Go_stuck hi (by simp only [act, h])) (fun h => h)
theorem Go_last {r : Int64} (hi : ins k pc = some .lastore) : Go k pc ls (.long r :: .int q :: .ref a :: st) bc bs hp Q ↔ WrL hp a q r (fun hp' => Go k (pc + 1) ls st bc bs hp' Q) := by
  unfold WrL
  cases h : hp.2 a with
  | inr y => exact iff_of_false (Go_stuck hi (by simp only [act, h])) (fun h => h)
  | inl y =>
    obtain ⟨t, n, f⟩ := y
    rcases f with f | f | f
    · exact iff_of_false (Go_stuck hi (by simp only [act, h])) (fun h => h)
    · dsimp only
      rw [Go_on (c := t = 3 ∧ 1 ≤ a ∧ a ≤ hp.1 ∧ ¬ (q < 0 ∨ n ≤ q.toNatClampNeg)) (pc' := pc + 1) (ls' := ls) (st' := st) (bc' := bc) (bs' := bs) (hp' := setHp hp a (.inl (t, n, .inr (.inl (vp_updL f q.toNatClampNeg r))))) hi (by simp only [act, h]; rfl)]
      exact ⟨fun h => ⟨⟨h.1.1, h.1.2.1, h.1.2.2.1⟩, h.1.2.2.2, h.2⟩, fun h => ⟨⟨h.1.1, h.1.2.1, h.1.2.2, h.2.1⟩, h.2.2⟩⟩
    · exact iff_of_false (Go_stuck hi (by simp only [act, h])) (fun h => h)
theorem Go_dald (hi : ins k pc = some .daload) : Go k pc ls (.int q :: .ref a :: st) bc bs hp Q ↔ RdD hp a q (fun v => Go k (pc + 1) ls (.double v :: st) bc bs hp Q) := by
  unfold RdD
  cases h : hp.2 a with
  | inr y => exact iff_of_false (Go_stuck hi (by simp only [act, h])) (fun h => h)
  | inl y =>
    obtain ⟨t, n, f⟩ := y
    rcases f with f | f | f | f | f
    · exact iff_of_false (Go_stuck hi (by simp only [act, h])) (fun h => h)
    · exact iff_of_false (Go_stuck hi (by simp only [act, h])) (fun h => h)
    · exact iff_of_false (Go_stuck hi (by simp only [act, h])) (fun h => h)
    · dsimp only
      rw [Go_on (c := t = 4 ∧ 1 ≤ a ∧ a ≤ hp.1 ∧ ¬ (q < 0 ∨ n ≤ q.toNatClampNeg)) (pc' := pc + 1) (ls' := ls) (st' := .double (f q.toNatClampNeg) :: st) (bc' := bc) (bs' := bs) (hp' := hp) hi (by simp only [act, h]; rfl)]
      exact ⟨fun h => ⟨⟨h.1.1, h.1.2.1, h.1.2.2.1⟩, h.1.2.2.2, h.2⟩, fun h => ⟨⟨h.1.1, h.1.2.1, h.1.2.2, h.2.1⟩, h.2.2⟩⟩
    · exact iff_of_false (Go_stuck hi (by simp only [act, h])) (fun h => h)
theorem Go_dast {r : UInt64} (hi : ins k pc = some .dastore) : Go k pc ls (.double r :: .int q :: .ref a :: st) bc bs hp Q ↔ WrD hp a q r (fun hp' => Go k (pc + 1) ls st bc bs hp' Q) := by
  unfold WrD
  cases h : hp.2 a with
  | inr y => exact iff_of_false (Go_stuck hi (by simp only [act, h])) (fun h => h)
  | inl y =>
    obtain ⟨t, n, f⟩ := y
    rcases f with f | f | f | f | f
    · exact iff_of_false (Go_stuck hi (by simp only [act, h])) (fun h => h)
    · exact iff_of_false (Go_stuck hi (by simp only [act, h])) (fun h => h)
    · exact iff_of_false (Go_stuck hi (by simp only [act, h])) (fun h => h)
    · dsimp only
      rw [Go_on (c := t = 4 ∧ 1 ≤ a ∧ a ≤ hp.1 ∧ ¬ (q < 0 ∨ n ≤ q.toNatClampNeg)) (pc' := pc + 1) (ls' := ls) (st' := st) (bc' := bc) (bs' := bs) (hp' := setHp hp a (.inl (t, n, .inr (.inr (.inr (.inl (vf_upd f q.toNatClampNeg r))))))) hi (by simp only [act, h]; rfl)]
      exact ⟨fun h => ⟨⟨h.1.1, h.1.2.1, h.1.2.2.1⟩, h.1.2.2.2, h.2⟩, fun h => ⟨⟨h.1.1, h.1.2.1, h.1.2.2, h.2.1⟩, h.2.2⟩⟩
    · exact iff_of_false (Go_stuck hi (by simp only [act, h])) (fun h => h)
theorem Go_aald (hi : ins k pc = some .aaload) : Go k pc ls (.int q :: .ref a :: st) bc bs hp Q ↔ RdQ hp a q (fun v => Go k (pc + 1) ls (.ref v :: st) bc bs hp Q) := by
  unfold RdQ
  cases h : hp.2 a with
  | inr y => exact iff_of_false (Go_stuck hi (by simp only [act, h])) (fun h => h)
  | inl y =>
    obtain ⟨t, n, f⟩ := y
    rcases f with f | f | f | f | f
    · exact iff_of_false (Go_stuck hi (by simp only [act, h])) (fun h => h)
    · exact iff_of_false (Go_stuck hi (by simp only [act, h])) (fun h => h)
    · exact iff_of_false (Go_stuck hi (by simp only [act, h])) (fun h => h)
    · exact iff_of_false (Go_stuck hi (by simp only [act, h])) (fun h => h)
    · dsimp only
      by_cases hc : (5 ≤ t ∧ t ≤ 8) ∧ 1 ≤ a ∧ a ≤ hp.1 ∧ ¬ (q < 0 ∨ n ≤ q.toNatClampNeg)
      · cases h2 : f q.toNatClampNeg with
        | none => exact iff_of_false (Go_stuck hi (by simp only [act, h, h2, if_pos hc])) (fun h => h.2.2)
        | some r =>
          rw [Go_next (pc' := pc + 1) (ls' := ls) (st' := .ref r :: st) (bc' := bc) (bs' := bs) (hp' := hp) hi (by simp only [act, h, h2, if_pos hc]; rfl)]
          exact ⟨fun h => ⟨⟨hc.1, hc.2.1, hc.2.2.1⟩, hc.2.2.2, h⟩, fun h => h.2.2⟩
      · exact iff_of_false (Go_stuck hi (by simp only [act, h, if_neg hc])) (fun h => hc ⟨h.1.1, h.1.2.1, h.1.2.2, h.2.1⟩)
theorem Go_aast {r : Nat} (hi : ins k pc = some .aastore) : Go k pc ls (.ref r :: .int q :: .ref a :: st) bc bs hp Q ↔ WrQ hp a q r (fun hp' => Go k (pc + 1) ls st bc bs hp' Q) := by
  unfold WrQ
  cases h : hp.2 a with
  | inr y => exact iff_of_false (Go_stuck hi (by simp only [act, h])) (fun h => h)
  | inl y =>
    obtain ⟨t, n, f⟩ := y
    rcases f with f | f | f | f | f
    · exact iff_of_false (Go_stuck hi (by simp only [act, h])) (fun h => h)
    · exact iff_of_false (Go_stuck hi (by simp only [act, h])) (fun h => h)
    · exact iff_of_false (Go_stuck hi (by simp only [act, h])) (fun h => h)
    · exact iff_of_false (Go_stuck hi (by simp only [act, h])) (fun h => h)
    · cases h2 : hp.2 r with
      | inl y => exact iff_of_false (Go_stuck hi (by simp only [act, h, h2])) (fun h => h)
      | inr y =>
        obtain ⟨ci, vs⟩ := y
        dsimp only
        rw [Go_on (c := arTag ci = some t ∧ (1 ≤ r ∧ r ≤ hp.1) ∧ 1 ≤ a ∧ a ≤ hp.1 ∧ ¬ (q < 0 ∨ n ≤ q.toNatClampNeg)) (pc' := pc + 1) (ls' := ls) (st' := st) (bc' := bc) (bs' := bs) (hp' := setHp hp a (.inl (t, n, .inr (.inr (.inr (.inr (va_up f q.toNatClampNeg (some r)))))))) hi (by simp only [act, h, h2]; rfl)]
        exact ⟨fun h => ⟨⟨h.1.1, h.1.2.1, h.1.2.2.1, h.1.2.2.2.1⟩, h.1.2.2.2.2, h.2⟩, fun h => ⟨⟨h.1.1, h.1.2.1, h.1.2.2.1, h.1.2.2.2, h.2.1⟩, h.2.2⟩⟩
theorem Go_alen (hi : ins k pc = some .arraylength) : Go k pc ls (.ref a :: st) bc bs hp Q ↔ RdLen hp a (fun v => Go k (pc + 1) ls (.int v :: st) bc bs hp Q) := by
  unfold RdLen
  cases h : hp.2 a with
  | inr y => exact iff_of_false (Go_stuck hi (by simp only [act, h])) (fun h => h)
  | inl y =>
    obtain ⟨t, n, f⟩ := y
    dsimp only
    rw [Go_on (c := t ≤ 8 ∧ (a = 0 → t = 0) ∧ a ≤ hp.1) (pc' := pc + 1) (ls' := ls) (st' := .int (Int32.ofNat n) :: st) (bc' := bc) (bs' := bs) (hp' := hp) hi (by simp only [act, h]; rfl)]
/-- a call's static part, and the part that the run decides -/
def calStat (k k' : Nat) (as : List Value) : Bool := decide (hgt k' < hgt k) && (decide (k' < 233) && (as.all (fun v => decide (v.category = 1)) && decide (as.length ≤ mL k')))
theorem callOK_iff {k' : Nat} : callOK k k' as rest bc bs = true ↔ calStat k k' as = true ∧ mcT k' ≤ bc ∧ msT k' ≤ bs ∧ nsum rest ≤ 8 := by
  simp only [callOK, calStat, Bool.and_eq_true, decide_eq_true_eq]
  constructor
  · rintro ⟨a, b, c, d, e, f, g⟩; exact ⟨⟨a, b, f, g⟩, c, d, e⟩
  · rintro ⟨⟨a, b, f, g⟩, c, d, e⟩; exact ⟨a, b, c, d, e, f, g⟩
theorem Go_inv {k' mc ms : Nat} (hi : ins k pc = some i) (ha : act k i pc ls st bc bs hp = callO k' as rest) (hh : mH k = []) (h1 : mcT k' = mc) (h2 : msT k' = ms) (hS : calStat k k' as = true) : Go k pc ls st bc bs hp Q ↔ (mc ≤ bc ∧ ms ≤ bs ∧ nsum rest ≤ 8) ∧ Call k' as hp (Aft k (pc + 3) ls rest (bc - mc) (bs - ms) Q) := by
  subst h1; subst h2
  rw [Go_call hi ha hh, callOK_iff]
  exact ⟨fun h => ⟨h.1.2, h.2⟩, fun h => ⟨⟨hS, h.1⟩, h.2⟩⟩
theorem Go_invH {k' mc ms : Nat} {r0 : Nat × Nat × Nat × Nat} {rs : List (Nat × Nat × Nat × Nat)} (hi : ins k pc = some i) (ha : act k i pc ls st bc bs hp = callO k' as rest) (hh : mH k = r0 :: rs) (h1 : mcT k' = mc) (h2 : msT k' = ms) (hS : calStat k k' as = true) : Go k pc ls st bc bs hp Q ↔ (mc ≤ bc ∧ ms ≤ bs ∧ nsum rest ≤ 8) ∧ Call k' as hp (AftH k (pc + 3) pc ls rest (bc - mc) (bs - ms) Q) := by
  subst h1; subst h2
  rw [Go_callH hi ha hh, callOK_iff]
  exact ⟨fun h => ⟨h.1.2, h.2⟩, fun h => ⟨⟨hS, h.1⟩, h.2⟩⟩
theorem Go_inv0 {k' : Nat} (hi : ins k pc = some i) (ha : act k i pc ls st bc bs hp = callO k' as rest) (hh : mH k = []) (h1 : mcT k' = 0) (h2 : msT k' = 0) (hS : calStat k k' as = true) : Go k pc ls st bc bs hp Q ↔ nsum rest ≤ 8 ∧ Call k' as hp (Aft k (pc + 3) ls rest bc bs Q) := by
  rw [Go_inv hi ha hh h1 h2 hS]
  exact ⟨fun h => ⟨h.1.2.2, h.2⟩, fun h => ⟨⟨Nat.zero_le _, Nat.zero_le _, h.1⟩, h.2⟩⟩
/-- the receiver is of the class -/
def Rcv (hp : Hp) (b ci : Nat) : Prop := (isObj hp b ci).isSome = true
theorem Go_invV {k' mc ms b : Nat} (hi : ins k pc = some (.invokevirtual x)) (hc : calOf k x = some (0, k')) (hs : st[mA k']? = some (.ref b)) (ht : (st.take (mA k' + 1)).reverse = as) (hd : st.drop (mA k' + 1) = rest) (ho : mO k' = ci) (hh : mH k = []) (h1 : mcT k' = mc) (h2 : msT k' = ms) (hS : calStat k k' as = true) : Go k pc ls st bc bs hp Q ↔ Rcv hp b ci ∧ (mc ≤ bc ∧ ms ≤ bs ∧ nsum rest ≤ 8) ∧ Call k' as hp (Aft k (pc + 3) ls rest (bc - mc) (bs - ms) Q) := by
  subst ht; subst hd; subst ho
  unfold Rcv
  by_cases hb : (isObj hp b (mO k')).isSome = true
  · rw [Go_inv (rest := st.drop (mA k' + 1)) hi (by simp only [act, hc, hs, if_pos hb]) hh h1 h2 hS]
    exact ⟨fun h => ⟨hb, h⟩, fun h => h.2⟩
  · exact iff_of_false (Go_stuck hi (by simp only [act, hc, hs, if_neg hb])) (fun h => hb h.1)
theorem Go_invV0 {k' b : Nat} (hi : ins k pc = some (.invokevirtual x)) (hc : calOf k x = some (0, k')) (hs : st[mA k']? = some (.ref b)) (ht : (st.take (mA k' + 1)).reverse = as) (hd : st.drop (mA k' + 1) = rest) (ho : mO k' = ci) (hh : mH k = []) (h1 : mcT k' = 0) (h2 : msT k' = 0) (hS : calStat k k' as = true) : Go k pc ls st bc bs hp Q ↔ Rcv hp b ci ∧ nsum rest ≤ 8 ∧ Call k' as hp (Aft k (pc + 3) ls rest bc bs Q) := by
  rw [Go_invV hi hc hs ht hd ho hh h1 h2 hS]
  exact ⟨fun h => ⟨h.1, h.2.1.2.2, h.2.2⟩, fun h => ⟨h.1, ⟨Nat.zero_le _, Nat.zero_le _, h.2.1⟩, h.2.2⟩⟩
theorem Go_invVH {k' mc ms b : Nat} {r0 : Nat × Nat × Nat × Nat} {rs : List (Nat × Nat × Nat × Nat)} (hi : ins k pc = some (.invokevirtual x)) (hc : calOf k x = some (0, k')) (hs : st[mA k']? = some (.ref b)) (ht : (st.take (mA k' + 1)).reverse = as) (hd : st.drop (mA k' + 1) = rest) (ho : mO k' = ci) (hh : mH k = r0 :: rs) (h1 : mcT k' = mc) (h2 : msT k' = ms) (hS : calStat k k' as = true) : Go k pc ls st bc bs hp Q ↔ Rcv hp b ci ∧ (mc ≤ bc ∧ ms ≤ bs ∧ nsum rest ≤ 8) ∧ Call k' as hp (AftH k (pc + 3) pc ls rest (bc - mc) (bs - ms) Q) := by
  subst ht; subst hd; subst ho
  unfold Rcv
  by_cases hb : (isObj hp b (mO k')).isSome = true
  · rw [Go_invH (rest := st.drop (mA k' + 1)) hi (by simp only [act, hc, hs, if_pos hb]) hh h1 h2 hS]
    exact ⟨fun h => ⟨hb, h⟩, fun h => h.2⟩
  · exact iff_of_false (Go_stuck hi (by simp only [act, hc, hs, if_neg hb])) (fun h => hb h.1)
theorem Go_throw {e : Nat} (hi : ins k pc = some (.new x)) (hn : newOf k x = some (1, e)) (ht : throwAt k pc x = true) (hh : mH k = []) : Go k pc ls st bc bs hp Q ↔ (1 ≤ bc ∧ 6 ≤ bs ∧ nsum st ≤ 8) ∧ Q (.inr e) hp := by
  rw [Go_retIf (o := .inr e) (c := throwAt k pc x = true ∧ mH k = [] ∧ 1 ≤ bc ∧ 6 ≤ bs ∧ nsum st ≤ 8) hi (by simp only [act, hn])]
  exact ⟨fun h => ⟨h.1.2.2, h.2⟩, fun h => ⟨⟨ht, hh, h.1⟩, h.2⟩⟩
theorem Go_new {N : Nat} (hi : ins k pc = some (.new x)) (hn : newOf k x = some (0, ci)) (hc : ci < 9) (hN : nF ci = N) : Go k pc ls st bc bs hp Q ↔ (1 ≤ bc ∧ N ≤ bs) ∧ Go k (pc + 3) ls (.ref (hp.1 + 1) :: st) (bc - 1) (bs - N) (addHp hp (.inr (ci, dflt ci))) Q := by
  subst hN
  rw [Go_on (c := ci < 9 ∧ 1 ≤ bc ∧ nF ci ≤ bs) (pc' := pc + 3) (ls' := ls) (st' := .ref (hp.1 + 1) :: st) (bc' := bc - 1) (bs' := bs - nF ci) (hp' := addHp hp (.inr (ci, dflt ci))) hi (by simp only [act, hn]; rfl)]
  exact ⟨fun h => ⟨h.1.2, h.2⟩, fun h => ⟨⟨hc, h.1⟩, h.2⟩⟩
theorem Go_newa {ty : ArrayType} {N : Nat} {a0 : vp_A} (hi : ins k pc = some (.newarray ty)) (hN : q.toNatClampNeg = N) (h0 : ¬ q < 0) (hN2 : N ≤ 65536) (ha : newA (atTag ty) N = some a0) (ht : atTag ty = t) : Go k pc ls (.int q :: st) bc bs hp Q ↔ (1 ≤ bc ∧ N ≤ bs) ∧ Go k (pc + 2) ls (.ref (hp.1 + 1) :: st) (bc - 1) (bs - N) (addHp hp (.inl (t, a0))) Q := by
  subst hN; subst ht
  rw [Go_on (c := ¬ q < 0 ∧ q.toNatClampNeg ≤ 65536 ∧ 1 ≤ bc ∧ q.toNatClampNeg ≤ bs) (pc' := pc + 2) (ls' := ls) (st' := .ref (hp.1 + 1) :: st) (bc' := bc - 1) (bs' := bs - q.toNatClampNeg) (hp' := addHp hp (.inl (atTag ty, a0))) hi (by simp only [act, ha]; rfl)]
  exact ⟨fun h => ⟨h.1.2.2, h.2⟩, fun h => ⟨⟨h0, hN2, h.1⟩, h.2⟩⟩
theorem Go_anew {N : Nat} (hi : ins k pc = some (.anewarray x)) (hn : newOf k x = some (0, ci)) (ht : arTag ci = some t) (hN : q.toNatClampNeg = N) (h0 : ¬ q < 0) (hN2 : N ≤ 65536) : Go k pc ls (.int q :: st) bc bs hp Q ↔ (1 ≤ bc ∧ N ≤ bs) ∧ Go k (pc + 3) ls (.ref (hp.1 + 1) :: st) (bc - 1) (bs - N) (addHp hp (.inl (t, N, .inr (.inr (.inr (.inr (fun _ => none))))))) Q := by
  subst hN
  rw [Go_on (c := ¬ q < 0 ∧ q.toNatClampNeg ≤ 65536 ∧ 1 ≤ bc ∧ q.toNatClampNeg ≤ bs) (pc' := pc + 3) (ls' := ls) (st' := .ref (hp.1 + 1) :: st) (bc' := bc - 1) (bs' := bs - q.toNatClampNeg) (hp' := addHp hp (.inl (t, q.toNatClampNeg, .inr (.inr (.inr (.inr (fun _ => none))))))) hi (by simp only [act, hn, ht]; rfl)]
  exact ⟨fun h => ⟨h.1.2.2, h.2⟩, fun h => ⟨⟨h0, hN2, h.1⟩, h.2⟩⟩
theorem Go_cpy {sp dp n : Int32} {a0 y : Nat} (hi : ins k pc = some (.invokestatic x)) (hc : calOf k x = some (8, y)) : Go k pc ls (.int n :: .int dp :: .ref a :: .int sp :: .ref a0 :: st) bc bs hp Q ↔ nsum st ≤ 8 ∧ Cpy hp a0 a sp dp n (fun hp' => Go k (pc + 3) ls st bc bs hp' Q) := by
  unfold Cpy
  cases h : hp.2 a0 with
  | inr y => exact iff_of_false (Go_stuck hi (by simp only [act, hc, h])) (fun h => h.2)
  | inl y =>
    obtain ⟨t0, n0, f⟩ := y
    rcases f with f | f
    · cases h2 : hp.2 a with
      | inr y => exact iff_of_false (Go_stuck hi (by simp only [act, hc, h, h2])) (fun h => h.2)
      | inl y =>
        obtain ⟨t1, n1, g⟩ := y
        rcases g with g | g
        · dsimp only
          rw [Go_on (c := (t0 = 0 ∧ t1 = 0) ∧ (1 ≤ a0 ∧ a0 ≤ hp.1) ∧ (1 ≤ a ∧ a ≤ hp.1) ∧ ¬ sp < 0 ∧ ¬ dp < 0 ∧ ¬ n < 0 ∧ sp.toNatClampNeg + n.toNatClampNeg ≤ n0 ∧ dp.toNatClampNeg + n.toNatClampNeg ≤ n1 ∧ nsum st ≤ 8) (pc' := pc + 3) (ls' := ls) (st' := st) (bc' := bc) (bs' := bs) (hp' := setHp hp a (.inl (t1, n1, .inl (va_cpy f g sp.toNatClampNeg dp.toNatClampNeg n.toNatClampNeg)))) hi (by simp only [act, hc, h, h2]; rfl)]
          constructor
          · rintro ⟨⟨z1, z2, z3, z4, z5, z6, z7, z8, z9⟩, z⟩; exact ⟨z9, ⟨z1, z2, z3, z4, z5, z6, z7, z8⟩, z⟩
          · rintro ⟨z9, ⟨z1, z2, z3, z4, z5, z6, z7, z8⟩, z⟩; exact ⟨⟨z1, z2, z3, z4, z5, z6, z7, z8, z9⟩, z⟩
        · exact iff_of_false (Go_stuck hi (by simp only [act, hc, h, h2])) (fun h => h.2)
    · exact iff_of_false (Go_stuck hi (by simp only [act, hc, h])) (fun h => h.2)
theorem Go_sto {v : Value} {ls' : List Value} (hi : ins k pc = some i) (ha : act k i pc ls st bc bs hp = (match st1 ls j v with | some l => nx t l rest bc bs hp | none => none)) (h : j < ls.length) (hp2 : pok ls j = true) (hs : ls.set j v = ls') : Go k pc ls st bc bs hp Q ↔ Go k t ls' rest bc bs hp Q := by
  subst hs
  exact Go_next hi (by rw [ha]; simp only [st1, if_pos (And.intro h hp2)]; rfl)
theorem Go_sto2 {v : Value} {ls' : List Value} (hi : ins k pc = some i) (ha : act k i pc ls st bc bs hp = (match st2 ls j v with | some l => nx t l rest bc bs hp | none => none)) (h : j + 1 < ls.length) (hp2 : pok ls j = true) (hs : (ls.set j v).set (j + 1) .null = ls') : Go k pc ls st bc bs hp Q ↔ Go k t ls' rest bc bs hp Q := by
  subst hs
  exact Go_next hi (by rw [ha]; simp only [st2, if_pos (And.intro h hp2)]; rfl)
theorem putOK_of (h1 : (decide ((tF ci j).2.2.2 = false) || (decide ((mY k).name = "<init>") && decide ((tF ci j).1 = ownT.getD (mO k) ""))) = true) (h2 : narrow (yF ci j) v = v) (h3 : fits (yF ci j) v = true) : putOK k ci j v = true := by
  simp only [putOK, h1, h2, h3, decide_true, Bool.and_self]
end RowLaws
theorem nsum_nil : nsum [] = 0 := rfl
theorem nsum_int {x : Int32} {st : List Value} : nsum (.int x :: st) = 1 + nsum st := by simp [nsum, Value.category]
theorem nsum_ref {x : Nat} {st : List Value} : nsum (.ref x :: st) = 1 + nsum st := by simp [nsum, Value.category]
theorem nsum_float {x : UInt32} {st : List Value} : nsum (.float x :: st) = 1 + nsum st := by simp [nsum, Value.category]
theorem nsum_long {x : Int64} {st : List Value} : nsum (.long x :: st) = 2 + nsum st := by simp [nsum, Value.category]
theorem nsum_double {x : UInt64} {st : List Value} : nsum (.double x :: st) = 2 + nsum st := by simp [nsum, Value.category]
theorem cat_int {x : Int32} : (Value.int x).category = 1 := rfl
theorem cat_ref {x : Nat} : (Value.ref x).category = 1 := rfl
theorem cat_float {x : UInt32} : (Value.float x).category = 1 := rfl
theorem cat_null : Value.null.category = 1 := rfl
end
section
section
variable {a0 a1 a2 a3 a4 a5 a6 a7 a8 : Value} {st : List Value} {bc bs : Nat} {hp : Hp} {Q : Out → Hp → Prop}
theorem sX0_init_0 {x : Nat} : Go kX0_init 0 [(.ref x)] st bc bs hp Q ↔ Go kX0_init 1 [(.ref x)] (.ref x :: st) bc bs hp Q := Go_next (i := .aload_n 0) rfl rfl
theorem sX0_init_1 {x : Nat} : Go kX0_init 1 [a0] (.ref x :: st) bc bs hp Q ↔ nsum st ≤ 8 ∧ Go kX0_init 4 [a0] st bc bs hp Q := Go_on (i := .invokespecial 3) rfl rfl
theorem sX0_init_4 {x : Nat} : Go kX0_init 4 [(.ref x)] st bc bs hp Q ↔ Go kX0_init 5 [(.ref x)] (.ref x :: st) bc bs hp Q := Go_next (i := .aload_n 0) rfl rfl
theorem sX0_init_5 : Go kX0_init 5 [a0] st bc bs hp Q ↔ (1 ≤ bc ∧ 2 ≤ bs) ∧ Go kX0_init 8 [a0] (.ref (hp.1 + 1) :: st) (bc - 1) (bs - 2) (addHp hp (.inr (4, dflt 4))) Q := Go_new rfl rfl (by decide) rfl
theorem sX0_init_8 {x : Nat} : Go kX0_init 8 [a0] (.ref x :: st) bc bs hp Q ↔ Go kX0_init 9 [a0] (.ref x :: .ref x :: st) bc bs hp Q := Go_next (i := .dup) rfl rfl
theorem sX0_init_9 {x : Nat} : Go kX0_init 9 [a0] (.ref x :: st) bc bs hp Q ↔ (1 ≤ bc ∧ 48 ≤ bs ∧ nsum st ≤ 8) ∧ Call kX4_init [.ref x] hp (Aft kX0_init 12 [a0] st (bc - 1) (bs - 48) Q) := Go_inv (i := .invokespecial 11) rfl rfl rfl rfl rfl rfl
theorem sX0_init_12 {x : Nat} {y : Nat} : Go kX0_init 12 [a0] (.ref y :: .ref x :: st) bc bs hp Q ↔ WrF hp x 0 0 (.ref y) (fun hp => Go kX0_init 15 [a0] st bc bs hp Q) := Go_puti rfl rfl (putOK_of rfl rfl rfl)
theorem sX0_init_15 {x : Nat} : Go kX0_init 15 [(.ref x)] st bc bs hp Q ↔ Go kX0_init 16 [(.ref x)] (.ref x :: st) bc bs hp Q := Go_next (i := .aload_n 0) rfl rfl
theorem sX0_init_16 : Go kX0_init 16 [a0] st bc bs hp Q ↔ Go kX0_init 17 [a0] (.int (-1) :: st) bc bs hp Q := Go_next (i := .iconst (-1)) rfl rfl
theorem sX0_init_17 {x : Nat} {y : Int32} : Go kX0_init 17 [a0] (.int y :: .ref x :: st) bc bs hp Q ↔ WrF hp x 0 3 (.int y) (fun hp => Go kX0_init 20 [a0] st bc bs hp Q) := Go_puti rfl rfl (putOK_of rfl rfl rfl)
theorem sX0_init_20 {x : Nat} : Go kX0_init 20 [(.ref x)] st bc bs hp Q ↔ Go kX0_init 21 [(.ref x)] (.ref x :: st) bc bs hp Q := Go_next (i := .aload_n 0) rfl rfl
theorem sX0_init_21 : Go kX0_init 21 [a0] st bc bs hp Q ↔ Go kX0_init 22 [a0] (.int (-1) :: st) bc bs hp Q := Go_next (i := .iconst (-1)) rfl rfl
theorem sX0_init_22 {x : Nat} {y : Int32} : Go kX0_init 22 [a0] (.int y :: .ref x :: st) bc bs hp Q ↔ WrF hp x 0 4 (.int y) (fun hp => Go kX0_init 25 [a0] st bc bs hp Q) := Go_puti rfl rfl (putOK_of rfl rfl rfl)
theorem sX0_init_25 {x : Nat} : Go kX0_init 25 [(.ref x)] st bc bs hp Q ↔ Go kX0_init 26 [(.ref x)] (.ref x :: st) bc bs hp Q := Go_next (i := .aload_n 0) rfl rfl
theorem sX0_init_26 : Go kX0_init 26 [a0] st bc bs hp Q ↔ Go kX0_init 27 [a0] (.int (-1) :: st) bc bs hp Q := Go_next (i := .iconst (-1)) rfl rfl
theorem sX0_init_27 {x : Nat} {y : Int32} : Go kX0_init 27 [a0] (.int y :: .ref x :: st) bc bs hp Q ↔ WrF hp x 0 5 (.int y) (fun hp => Go kX0_init 30 [a0] st bc bs hp Q) := Go_puti rfl rfl (putOK_of rfl rfl rfl)
theorem sX0_init_30 : Go kX0_init 30 [a0] [] bc bs hp Q ↔ Q (.inl none) hp := Go_ret (i := .return_) rfl rfl
theorem sX0_changeTimes_0 {x : Nat} : Go kX0_changeTimes 0 [(.ref x), a1, a2, a3] st bc bs hp Q ↔ Go kX0_changeTimes 1 [(.ref x), a1, a2, a3] (.ref x :: st) bc bs hp Q := Go_next (i := .aload_n 0) rfl rfl
theorem sX0_changeTimes_1 {x : Nat} : Go kX0_changeTimes 1 [a0, a1, a2, a3] (.ref x :: st) bc bs hp Q ↔ RdF hp x 0 1 (fun v => Go kX0_changeTimes 4 [a0, a1, a2, a3] (v :: st) bc bs hp Q) := Go_getf rfl rfl
theorem sX0_changeTimes_4 {x : Nat} : Go kX0_changeTimes 4 [(.ref x), a1, a2, a3] st bc bs hp Q ↔ Go kX0_changeTimes 5 [(.ref x), a1, a2, a3] (.ref x :: st) bc bs hp Q := Go_next (i := .aload_n 0) rfl rfl
theorem sX0_changeTimes_5 {x : Nat} : Go kX0_changeTimes 5 [a0, a1, a2, a3] (.ref x :: st) bc bs hp Q ↔ RdF hp x 0 2 (fun v => Go kX0_changeTimes 8 [a0, a1, a2, a3] (v :: st) bc bs hp Q) := Go_getf rfl rfl
theorem sX0_changeTimes_8 {x y : Int32} : Go kX0_changeTimes 8 [a0, a1, a2, a3] (.int y :: .int x :: st) bc bs hp Q ↔ Go kX0_changeTimes 9 [a0, a1, a2, a3] (.int (x + y) :: st) bc bs hp Q := Go_next (i := .iadd) rfl rfl
theorem sX0_changeTimes_9 {x : Int32} (hj : a2.category = 1) : Go kX0_changeTimes 9 [a0, a1, a2, a3] (.int x :: st) bc bs hp Q ↔ Go kX0_changeTimes 10 [a0, a1, a2, (.int x)] st bc bs hp Q := Go_sto (i := .istore_n 3) (j := 3) (v := .int x) rfl rfl (Nat.le_of_ble_eq_true rfl) (decide_eq_true hj) rfl
theorem sX0_changeTimes_10 {x : Nat} : Go kX0_changeTimes 10 [(.ref x), a1, a2, a3] st bc bs hp Q ↔ Go kX0_changeTimes 11 [(.ref x), a1, a2, a3] (.ref x :: st) bc bs hp Q := Go_next (i := .aload_n 0) rfl rfl
theorem sX0_changeTimes_11 {x : Int32} : Go kX0_changeTimes 11 [a0, (.int x), a2, a3] st bc bs hp Q ↔ Go kX0_changeTimes 12 [a0, (.int x), a2, a3] (.int x :: st) bc bs hp Q := Go_next (i := .iload_n 1) rfl rfl
theorem sX0_changeTimes_12 {x : Nat} {y : Int32} : Go kX0_changeTimes 12 [a0, a1, a2, a3] (.int y :: .ref x :: st) bc bs hp Q ↔ WrF hp x 0 1 (.int y) (fun hp => Go kX0_changeTimes 15 [a0, a1, a2, a3] st bc bs hp Q) := Go_puti rfl rfl (putOK_of rfl rfl rfl)
theorem sX0_changeTimes_15 {x : Nat} : Go kX0_changeTimes 15 [(.ref x), a1, a2, a3] st bc bs hp Q ↔ Go kX0_changeTimes 16 [(.ref x), a1, a2, a3] (.ref x :: st) bc bs hp Q := Go_next (i := .aload_n 0) rfl rfl
theorem sX0_changeTimes_16 {x : Int32} : Go kX0_changeTimes 16 [a0, a1, (.int x), a3] st bc bs hp Q ↔ Go kX0_changeTimes 17 [a0, a1, (.int x), a3] (.int x :: st) bc bs hp Q := Go_next (i := .iload_n 2) rfl rfl
theorem sX0_changeTimes_17 {x : Nat} {y : Int32} : Go kX0_changeTimes 17 [a0, a1, a2, a3] (.int y :: .ref x :: st) bc bs hp Q ↔ WrF hp x 0 2 (.int y) (fun hp => Go kX0_changeTimes 20 [a0, a1, a2, a3] st bc bs hp Q) := Go_puti rfl rfl (putOK_of rfl rfl rfl)
theorem sX0_changeTimes_20 {x : Int32} : Go kX0_changeTimes 20 [a0, a1, a2, (.int x)] st bc bs hp Q ↔ Go kX0_changeTimes 21 [a0, a1, a2, (.int x)] (.int x :: st) bc bs hp Q := Go_next (i := .iload_n 3) rfl rfl
theorem sX0_changeTimes_21 {x : Int32} : Go kX0_changeTimes 21 [a0, a1, a2, a3] [.int x] bc bs hp Q ↔ Q (.inl (some (.int x))) hp := Go_ret (i := .ireturn) rfl rfl
theorem sX0_changeFollow_0 {x : Nat} : Go kX0_changeFollow 0 [(.ref x), a1, a2] st bc bs hp Q ↔ Go kX0_changeFollow 1 [(.ref x), a1, a2] (.ref x :: st) bc bs hp Q := Go_next (i := .aload_n 0) rfl rfl
theorem sX0_changeFollow_1 {x : Nat} : Go kX0_changeFollow 1 [a0, a1, a2] (.ref x :: st) bc bs hp Q ↔ RdF hp x 0 3 (fun v => Go kX0_changeFollow 4 [a0, a1, a2] (v :: st) bc bs hp Q) := Go_getf rfl rfl
theorem sX0_changeFollow_4 {x : Int32} (hj : a1.category = 1) : Go kX0_changeFollow 4 [a0, a1, a2] (.int x :: st) bc bs hp Q ↔ Go kX0_changeFollow 5 [a0, a1, (.int x)] st bc bs hp Q := Go_sto (i := .istore_n 2) (j := 2) (v := .int x) rfl rfl (Nat.le_of_ble_eq_true rfl) (decide_eq_true hj) rfl
theorem sX0_changeFollow_5 {x : Nat} : Go kX0_changeFollow 5 [(.ref x), a1, a2] st bc bs hp Q ↔ Go kX0_changeFollow 6 [(.ref x), a1, a2] (.ref x :: st) bc bs hp Q := Go_next (i := .aload_n 0) rfl rfl
theorem sX0_changeFollow_6 {x : Int32} : Go kX0_changeFollow 6 [a0, (.int x), a2] st bc bs hp Q ↔ Go kX0_changeFollow 7 [a0, (.int x), a2] (.int x :: st) bc bs hp Q := Go_next (i := .iload_n 1) rfl rfl
theorem sX0_changeFollow_7 {x : Nat} {y : Int32} : Go kX0_changeFollow 7 [a0, a1, a2] (.int y :: .ref x :: st) bc bs hp Q ↔ WrF hp x 0 3 (.int y) (fun hp => Go kX0_changeFollow 10 [a0, a1, a2] st bc bs hp Q) := Go_puti rfl rfl (putOK_of rfl rfl rfl)
theorem sX0_changeFollow_10 {x : Int32} : Go kX0_changeFollow 10 [a0, a1, (.int x)] st bc bs hp Q ↔ Go kX0_changeFollow 11 [a0, a1, (.int x)] (.int x :: st) bc bs hp Q := Go_next (i := .iload_n 2) rfl rfl
theorem sX0_changeFollow_11 {x : Int32} : Go kX0_changeFollow 11 [a0, a1, a2] [.int x] bc bs hp Q ↔ Q (.inl (some (.int x))) hp := Go_ret (i := .ireturn) rfl rfl
theorem sX0_changeLink_0 {x : Nat} : Go kX0_changeLink 0 [(.ref x), a1, a2] st bc bs hp Q ↔ Go kX0_changeLink 1 [(.ref x), a1, a2] (.ref x :: st) bc bs hp Q := Go_next (i := .aload_n 0) rfl rfl
theorem sX0_changeLink_1 {x : Nat} : Go kX0_changeLink 1 [a0, a1, a2] (.ref x :: st) bc bs hp Q ↔ RdF hp x 0 4 (fun v => Go kX0_changeLink 4 [a0, a1, a2] (v :: st) bc bs hp Q) := Go_getf rfl rfl
theorem sX0_changeLink_4 {x : Int32} (hj : a1.category = 1) : Go kX0_changeLink 4 [a0, a1, a2] (.int x :: st) bc bs hp Q ↔ Go kX0_changeLink 5 [a0, a1, (.int x)] st bc bs hp Q := Go_sto (i := .istore_n 2) (j := 2) (v := .int x) rfl rfl (Nat.le_of_ble_eq_true rfl) (decide_eq_true hj) rfl
theorem sX0_changeLink_5 {x : Nat} : Go kX0_changeLink 5 [(.ref x), a1, a2] st bc bs hp Q ↔ Go kX0_changeLink 6 [(.ref x), a1, a2] (.ref x :: st) bc bs hp Q := Go_next (i := .aload_n 0) rfl rfl
theorem sX0_changeLink_6 {x : Int32} : Go kX0_changeLink 6 [a0, (.int x), a2] st bc bs hp Q ↔ Go kX0_changeLink 7 [a0, (.int x), a2] (.int x :: st) bc bs hp Q := Go_next (i := .iload_n 1) rfl rfl
theorem sX0_changeLink_7 {x : Nat} {y : Int32} : Go kX0_changeLink 7 [a0, a1, a2] (.int y :: .ref x :: st) bc bs hp Q ↔ WrF hp x 0 4 (.int y) (fun hp => Go kX0_changeLink 10 [a0, a1, a2] st bc bs hp Q) := Go_puti rfl rfl (putOK_of rfl rfl rfl)
theorem sX0_changeLink_10 {x : Int32} : Go kX0_changeLink 10 [a0, a1, (.int x)] st bc bs hp Q ↔ Go kX0_changeLink 11 [a0, a1, (.int x)] (.int x :: st) bc bs hp Q := Go_next (i := .iload_n 2) rfl rfl
theorem sX0_changeLink_11 {x : Int32} : Go kX0_changeLink 11 [a0, a1, a2] [.int x] bc bs hp Q ↔ Q (.inl (some (.int x))) hp := Go_ret (i := .ireturn) rfl rfl
theorem sX0_changeCode_0 {x : Nat} : Go kX0_changeCode 0 [(.ref x), a1, a2] st bc bs hp Q ↔ Go kX0_changeCode 1 [(.ref x), a1, a2] (.ref x :: st) bc bs hp Q := Go_next (i := .aload_n 0) rfl rfl
theorem sX0_changeCode_1 {x : Nat} : Go kX0_changeCode 1 [a0, a1, a2] (.ref x :: st) bc bs hp Q ↔ RdF hp x 0 5 (fun v => Go kX0_changeCode 4 [a0, a1, a2] (v :: st) bc bs hp Q) := Go_getf rfl rfl
theorem sX0_changeCode_4 {x : Int32} (hj : a1.category = 1) : Go kX0_changeCode 4 [a0, a1, a2] (.int x :: st) bc bs hp Q ↔ Go kX0_changeCode 5 [a0, a1, (.int x)] st bc bs hp Q := Go_sto (i := .istore_n 2) (j := 2) (v := .int x) rfl rfl (Nat.le_of_ble_eq_true rfl) (decide_eq_true hj) rfl
theorem sX0_changeCode_5 {x : Nat} : Go kX0_changeCode 5 [(.ref x), a1, a2] st bc bs hp Q ↔ Go kX0_changeCode 6 [(.ref x), a1, a2] (.ref x :: st) bc bs hp Q := Go_next (i := .aload_n 0) rfl rfl
theorem sX0_changeCode_6 {x : Int32} : Go kX0_changeCode 6 [a0, (.int x), a2] st bc bs hp Q ↔ Go kX0_changeCode 7 [a0, (.int x), a2] (.int x :: st) bc bs hp Q := Go_next (i := .iload_n 1) rfl rfl
theorem sX0_changeCode_7 {x : Nat} {y : Int32} : Go kX0_changeCode 7 [a0, a1, a2] (.int y :: .ref x :: st) bc bs hp Q ↔ WrF hp x 0 5 (.int y) (fun hp => Go kX0_changeCode 10 [a0, a1, a2] st bc bs hp Q) := Go_puti rfl rfl (putOK_of rfl rfl rfl)
theorem sX0_changeCode_10 {x : Int32} : Go kX0_changeCode 10 [a0, a1, (.int x)] st bc bs hp Q ↔ Go kX0_changeCode 11 [a0, a1, (.int x)] (.int x :: st) bc bs hp Q := Go_next (i := .iload_n 2) rfl rfl
theorem sX0_changeCode_11 {x : Int32} : Go kX0_changeCode 11 [a0, a1, a2] [.int x] bc bs hp Q ↔ Q (.inl (some (.int x))) hp := Go_ret (i := .ireturn) rfl rfl
theorem sX0_changeAssert_0 {x : Nat} : Go kX0_changeAssert 0 [(.ref x), a1, a2] st bc bs hp Q ↔ Go kX0_changeAssert 1 [(.ref x), a1, a2] (.ref x :: st) bc bs hp Q := Go_next (i := .aload_n 0) rfl rfl
theorem sX0_changeAssert_1 {x : Nat} : Go kX0_changeAssert 1 [a0, a1, a2] (.ref x :: st) bc bs hp Q ↔ RdF hp x 0 6 (fun v => Go kX0_changeAssert 4 [a0, a1, a2] (v :: st) bc bs hp Q) := Go_getf rfl rfl
theorem sX0_changeAssert_4 {x : Int32} (hj : a1.category = 1) : Go kX0_changeAssert 4 [a0, a1, a2] (.int x :: st) bc bs hp Q ↔ Go kX0_changeAssert 5 [a0, a1, (.int x)] st bc bs hp Q := Go_sto (i := .istore_n 2) (j := 2) (v := .int x) rfl rfl (Nat.le_of_ble_eq_true rfl) (decide_eq_true hj) rfl
theorem sX0_changeAssert_5 {x : Nat} : Go kX0_changeAssert 5 [(.ref x), a1, a2] st bc bs hp Q ↔ Go kX0_changeAssert 6 [(.ref x), a1, a2] (.ref x :: st) bc bs hp Q := Go_next (i := .aload_n 0) rfl rfl
theorem sX0_changeAssert_6 {x : Int32} : Go kX0_changeAssert 6 [a0, (.int x), a2] st bc bs hp Q ↔ Go kX0_changeAssert 7 [a0, (.int x), a2] (.int x :: st) bc bs hp Q := Go_next (i := .iload_n 1) rfl rfl
theorem sX0_changeAssert_7 {x : Nat} {y : Int32} : Go kX0_changeAssert 7 [a0, a1, a2] (.int y :: .ref x :: st) bc bs hp Q ↔ putOK kX0_changeAssert 0 6 (.int y) = true ∧ WrF hp x 0 6 (.int y) (fun hp => Go kX0_changeAssert 10 [a0, a1, a2] st bc bs hp Q) := Go_putf rfl rfl
theorem sX0_changeAssert_10 {x : Int32} : Go kX0_changeAssert 10 [a0, a1, (.int x)] st bc bs hp Q ↔ Go kX0_changeAssert 11 [a0, a1, (.int x)] (.int x :: st) bc bs hp Q := Go_next (i := .iload_n 2) rfl rfl
theorem sX0_changeAssert_11 {x : Int32} : Go kX0_changeAssert 11 [a0, a1, a2] [.int x] bc bs hp Q ↔ outI kX0_changeAssert x = true ∧ Q (.inl (some (.int x))) hp := Go_retIf (i := .ireturn) rfl rfl
theorem sX3_init_0 {x : Nat} : Go kX3_init 0 [(.ref x)] st bc bs hp Q ↔ Go kX3_init 1 [(.ref x)] (.ref x :: st) bc bs hp Q := Go_next (i := .aload_n 0) rfl rfl
theorem sX3_init_1 {x : Nat} : Go kX3_init 1 [a0] (.ref x :: st) bc bs hp Q ↔ nsum st ≤ 8 ∧ Go kX3_init 4 [a0] st bc bs hp Q := Go_on (i := .invokespecial 3) rfl rfl
theorem sX3_init_4 {x : Nat} : Go kX3_init 4 [(.ref x)] st bc bs hp Q ↔ Go kX3_init 5 [(.ref x)] (.ref x :: st) bc bs hp Q := Go_next (i := .aload_n 0) rfl rfl
theorem sX3_init_5 : Go kX3_init 5 [a0] st bc bs hp Q ↔ Go kX3_init 6 [a0] (.int 2 :: st) bc bs hp Q := Go_next (i := .iconst 2) rfl rfl
theorem sX3_init_6 {x : Nat} {y : Int32} : Go kX3_init 6 [a0] (.int y :: .ref x :: st) bc bs hp Q ↔ WrF hp x 3 4 (.int y) (fun hp => Go kX3_init 9 [a0] st bc bs hp Q) := Go_puti rfl rfl (putOK_of rfl rfl rfl)
theorem sX3_init_9 {x : Nat} : Go kX3_init 9 [(.ref x)] st bc bs hp Q ↔ Go kX3_init 10 [(.ref x)] (.ref x :: st) bc bs hp Q := Go_next (i := .aload_n 0) rfl rfl
theorem sX3_init_10 : Go kX3_init 10 [a0] st bc bs hp Q ↔ Go kX3_init 11 [a0] (.int (-1) :: st) bc bs hp Q := Go_next (i := .iconst (-1)) rfl rfl
theorem sX3_init_11 {x : Nat} {y : Int32} : Go kX3_init 11 [a0] (.int y :: .ref x :: st) bc bs hp Q ↔ WrF hp x 3 6 (.int y) (fun hp => Go kX3_init 14 [a0] st bc bs hp Q) := Go_puti rfl rfl (putOK_of rfl rfl rfl)
theorem sX3_init_14 : Go kX3_init 14 [a0] [] bc bs hp Q ↔ Q (.inl none) hp := Go_ret (i := .return_) rfl rfl
theorem sX3_describe_0 {x : Nat} : Go kX3_describe 0 [(.ref x), a1, a2, a3, a4, a5, a6] st bc bs hp Q ↔ Go kX3_describe 1 [(.ref x), a1, a2, a3, a4, a5, a6] (.ref x :: st) bc bs hp Q := Go_next (i := .aload_n 0) rfl rfl
theorem sX3_describe_1 {x : Int32} : Go kX3_describe 1 [a0, (.int x), a2, a3, a4, a5, a6] st bc bs hp Q ↔ Go kX3_describe 2 [a0, (.int x), a2, a3, a4, a5, a6] (.int x :: st) bc bs hp Q := Go_next (i := .iload_n 1) rfl rfl
theorem sX3_describe_2 {x : Nat} {y : Int32} : Go kX3_describe 2 [a0, a1, a2, a3, a4, a5, a6] (.int y :: .ref x :: st) bc bs hp Q ↔ WrF hp x 3 0 (.int y) (fun hp => Go kX3_describe 5 [a0, a1, a2, a3, a4, a5, a6] st bc bs hp Q) := Go_puti rfl rfl (putOK_of rfl rfl rfl)
theorem sX3_describe_5 {x : Nat} : Go kX3_describe 5 [(.ref x), a1, a2, a3, a4, a5, a6] st bc bs hp Q ↔ Go kX3_describe 6 [(.ref x), a1, a2, a3, a4, a5, a6] (.ref x :: st) bc bs hp Q := Go_next (i := .aload_n 0) rfl rfl
theorem sX3_describe_6 {x : Int32} : Go kX3_describe 6 [a0, a1, (.int x), a3, a4, a5, a6] st bc bs hp Q ↔ Go kX3_describe 7 [a0, a1, (.int x), a3, a4, a5, a6] (.int x :: st) bc bs hp Q := Go_next (i := .iload_n 2) rfl rfl
theorem sX3_describe_7 {x : Nat} {y : Int32} : Go kX3_describe 7 [a0, a1, a2, a3, a4, a5, a6] (.int y :: .ref x :: st) bc bs hp Q ↔ WrF hp x 3 1 (.int y) (fun hp => Go kX3_describe 10 [a0, a1, a2, a3, a4, a5, a6] st bc bs hp Q) := Go_puti rfl rfl (putOK_of rfl rfl rfl)
theorem sX3_describe_10 {x : Nat} : Go kX3_describe 10 [(.ref x), a1, a2, a3, a4, a5, a6] st bc bs hp Q ↔ Go kX3_describe 11 [(.ref x), a1, a2, a3, a4, a5, a6] (.ref x :: st) bc bs hp Q := Go_next (i := .aload_n 0) rfl rfl
theorem sX3_describe_11 {x : Int32} : Go kX3_describe 11 [a0, a1, a2, (.int x), a4, a5, a6] st bc bs hp Q ↔ Go kX3_describe 12 [a0, a1, a2, (.int x), a4, a5, a6] (.int x :: st) bc bs hp Q := Go_next (i := .iload_n 3) rfl rfl
theorem sX3_describe_12 {x : Nat} {y : Int32} : Go kX3_describe 12 [a0, a1, a2, a3, a4, a5, a6] (.int y :: .ref x :: st) bc bs hp Q ↔ putOK kX3_describe 3 2 (.int y) = true ∧ WrF hp x 3 2 (.int y) (fun hp => Go kX3_describe 15 [a0, a1, a2, a3, a4, a5, a6] st bc bs hp Q) := Go_putf rfl rfl
theorem sX3_describe_15 {x : Nat} : Go kX3_describe 15 [(.ref x), a1, a2, a3, a4, a5, a6] st bc bs hp Q ↔ Go kX3_describe 16 [(.ref x), a1, a2, a3, a4, a5, a6] (.ref x :: st) bc bs hp Q := Go_next (i := .aload_n 0) rfl rfl
theorem sX3_describe_16 {x : Int32} : Go kX3_describe 16 [a0, a1, a2, a3, (.int x), a5, a6] st bc bs hp Q ↔ Go kX3_describe 18 [a0, a1, a2, a3, (.int x), a5, a6] (.int x :: st) bc bs hp Q := Go_next (i := .iload 4) rfl rfl
theorem sX3_describe_18 {x : Nat} {y : Int32} : Go kX3_describe 18 [a0, a1, a2, a3, a4, a5, a6] (.int y :: .ref x :: st) bc bs hp Q ↔ WrF hp x 3 3 (.int y) (fun hp => Go kX3_describe 21 [a0, a1, a2, a3, a4, a5, a6] st bc bs hp Q) := Go_puti rfl rfl (putOK_of rfl rfl rfl)
theorem sX3_describe_21 {x : Nat} : Go kX3_describe 21 [(.ref x), a1, a2, a3, a4, a5, a6] st bc bs hp Q ↔ Go kX3_describe 22 [(.ref x), a1, a2, a3, a4, a5, a6] (.ref x :: st) bc bs hp Q := Go_next (i := .aload_n 0) rfl rfl
theorem sX3_describe_22 {x : Int32} : Go kX3_describe 22 [a0, a1, a2, a3, a4, (.int x), a6] st bc bs hp Q ↔ Go kX3_describe 24 [a0, a1, a2, a3, a4, (.int x), a6] (.int x :: st) bc bs hp Q := Go_next (i := .iload 5) rfl rfl
theorem sX3_describe_24 {x : Nat} {y : Int32} : Go kX3_describe 24 [a0, a1, a2, a3, a4, a5, a6] (.int y :: .ref x :: st) bc bs hp Q ↔ WrF hp x 3 4 (.int y) (fun hp => Go kX3_describe 27 [a0, a1, a2, a3, a4, a5, a6] st bc bs hp Q) := Go_puti rfl rfl (putOK_of rfl rfl rfl)
theorem sX3_describe_27 {x : Nat} : Go kX3_describe 27 [(.ref x), a1, a2, a3, a4, a5, a6] st bc bs hp Q ↔ Go kX3_describe 28 [(.ref x), a1, a2, a3, a4, a5, a6] (.ref x :: st) bc bs hp Q := Go_next (i := .aload_n 0) rfl rfl
theorem sX3_describe_28 {x : Int32} : Go kX3_describe 28 [a0, a1, a2, a3, a4, a5, (.int x)] st bc bs hp Q ↔ Go kX3_describe 30 [a0, a1, a2, a3, a4, a5, (.int x)] (.int x :: st) bc bs hp Q := Go_next (i := .iload 6) rfl rfl
theorem sX3_describe_30 {x : Nat} {y : Int32} : Go kX3_describe 30 [a0, a1, a2, a3, a4, a5, a6] (.int y :: .ref x :: st) bc bs hp Q ↔ WrF hp x 3 5 (.int y) (fun hp => Go kX3_describe 33 [a0, a1, a2, a3, a4, a5, a6] st bc bs hp Q) := Go_puti rfl rfl (putOK_of rfl rfl rfl)
theorem sX3_describe_33 : Go kX3_describe 33 [a0, a1, a2, a3, a4, a5, a6] [] bc bs hp Q ↔ Q (.inl none) hp := Go_ret (i := .return_) rfl rfl
theorem sX3_runs_0 {x : Nat} : Go kX3_runs 0 [(.ref x)] st bc bs hp Q ↔ Go kX3_runs 1 [(.ref x)] (.ref x :: st) bc bs hp Q := Go_next (i := .aload_n 0) rfl rfl
theorem sX3_runs_1 {x : Nat} : Go kX3_runs 1 [a0] (.ref x :: st) bc bs hp Q ↔ RdF hp x 3 6 (fun v => Go kX3_runs 4 [a0] (v :: st) bc bs hp Q) := Go_getf rfl rfl
theorem sX3_runs_4 : Go kX3_runs 4 [a0] st bc bs hp Q ↔ Go kX3_runs 5 [a0] (.int (-1) :: st) bc bs hp Q := Go_next (i := .iconst (-1)) rfl rfl
theorem sX3_runs_5 {x y : Int32} : Go kX3_runs 5 [a0] (.int y :: .int x :: st) bc bs hp Q ↔ (x = y → Go kX3_runs 12 [a0] st bc bs hp Q) ∧ (¬ x = y → Go kX3_runs 8 [a0] st bc bs hp Q) := Go_ift (c := x = y) (i := .if_icmp .eq 7) rfl rfl
theorem sX3_runs_8 : Go kX3_runs 8 [a0] st bc bs hp Q ↔ Go kX3_runs 9 [a0] (.int 1 :: st) bc bs hp Q := Go_next (i := .iconst 1) rfl rfl
theorem sX3_runs_9 : Go kX3_runs 9 [a0] st bc bs hp Q ↔ Go kX3_runs 13 [a0] st bc bs hp Q := Go_next (i := .goto 4) rfl rfl
theorem sX3_runs_12 : Go kX3_runs 12 [a0] st bc bs hp Q ↔ Go kX3_runs 13 [a0] (.int 0 :: st) bc bs hp Q := Go_next (i := .iconst 0) rfl rfl
theorem sX3_runs_13 {x : Int32} : Go kX3_runs 13 [a0] [.int x] bc bs hp Q ↔ outI kX3_runs x = true ∧ Q (.inl (some (.int x))) hp := Go_retIf (i := .ireturn) rfl rfl
theorem sX3_wave_0 {x : Int32} : Go kX3_wave 0 [a0, a1, (.int x), a3, a4, a5, a6] st bc bs hp Q ↔ Go kX3_wave 1 [a0, a1, (.int x), a3, a4, a5, a6] (.int x :: st) bc bs hp Q := Go_next (i := .iload_n 2) rfl rfl
theorem sX3_wave_1 {x : Nat} : Go kX3_wave 1 [(.ref x), a1, a2, a3, a4, a5, a6] st bc bs hp Q ↔ Go kX3_wave 2 [(.ref x), a1, a2, a3, a4, a5, a6] (.ref x :: st) bc bs hp Q := Go_next (i := .aload_n 0) rfl rfl
theorem sX3_wave_2 {x : Nat} : Go kX3_wave 2 [a0, a1, a2, a3, a4, a5, a6] (.ref x :: st) bc bs hp Q ↔ RdF hp x 3 6 (fun v => Go kX3_wave 5 [a0, a1, a2, a3, a4, a5, a6] (v :: st) bc bs hp Q) := Go_getf rfl rfl
theorem sX3_wave_5 {x y : Int32} : Go kX3_wave 5 [a0, a1, a2, a3, a4, a5, a6] (.int y :: .int x :: st) bc bs hp Q ↔ Go kX3_wave 6 [a0, a1, a2, a3, a4, a5, a6] (.int (x - y) :: st) bc bs hp Q := Go_next (i := .isub) rfl rfl
theorem sX3_wave_6 {x : Int32} : Go kX3_wave 6 [a0, (.int x), a2, a3, a4, a5, a6] st bc bs hp Q ↔ Go kX3_wave 7 [a0, (.int x), a2, a3, a4, a5, a6] (.int x :: st) bc bs hp Q := Go_next (i := .iload_n 1) rfl rfl
theorem sX3_wave_7 {x : Nat} : Go kX3_wave 7 [(.ref x), a1, a2, a3, a4, a5, a6] st bc bs hp Q ↔ Go kX3_wave 8 [(.ref x), a1, a2, a3, a4, a5, a6] (.ref x :: st) bc bs hp Q := Go_next (i := .aload_n 0) rfl rfl
theorem sX3_wave_8 {x : Nat} : Go kX3_wave 8 [a0, a1, a2, a3, a4, a5, a6] (.ref x :: st) bc bs hp Q ↔ RdF hp x 3 5 (fun v => Go kX3_wave 11 [a0, a1, a2, a3, a4, a5, a6] (v :: st) bc bs hp Q) := Go_getf rfl rfl
theorem sX3_wave_11 {x y : Int32} : Go kX3_wave 11 [a0, a1, a2, a3, a4, a5, a6] (.int y :: .int x :: st) bc bs hp Q ↔ Go kX3_wave 12 [a0, a1, a2, a3, a4, a5, a6] (.int (x * y) :: st) bc bs hp Q := Go_next (i := .imul) rfl rfl
theorem sX3_wave_12 {x y : Int32} : Go kX3_wave 12 [a0, a1, a2, a3, a4, a5, a6] (.int y :: .int x :: st) bc bs hp Q ↔ Go kX3_wave 13 [a0, a1, a2, a3, a4, a5, a6] (.int (x + y) :: st) bc bs hp Q := Go_next (i := .iadd) rfl rfl
theorem sX3_wave_13 {x : Nat} : Go kX3_wave 13 [(.ref x), a1, a2, a3, a4, a5, a6] st bc bs hp Q ↔ Go kX3_wave 14 [(.ref x), a1, a2, a3, a4, a5, a6] (.ref x :: st) bc bs hp Q := Go_next (i := .aload_n 0) rfl rfl
theorem sX3_wave_14 {x : Nat} : Go kX3_wave 14 [a0, a1, a2, a3, a4, a5, a6] (.ref x :: st) bc bs hp Q ↔ RdF hp x 3 4 (fun v => Go kX3_wave 17 [a0, a1, a2, a3, a4, a5, a6] (v :: st) bc bs hp Q) := Go_getf rfl rfl
theorem sX3_wave_17 {x y : Int32} (hy : ¬ y = 0) : Go kX3_wave 17 [a0, a1, a2, a3, a4, a5, a6] (.int y :: .int x :: st) bc bs hp Q ↔ Go kX3_wave 18 [a0, a1, a2, a3, a4, a5, a6] (.int (x - x / y * y) :: st) bc bs hp Q := Go_next (i := .irem) rfl (by simp only [act, if_neg hy]; rfl)
theorem sX3_wave_18 {x : Int32} (hj : a2.category = 1) : Go kX3_wave 18 [a0, a1, a2, a3, a4, a5, a6] (.int x :: st) bc bs hp Q ↔ Go kX3_wave 19 [a0, a1, a2, (.int x), a4, a5, a6] st bc bs hp Q := Go_sto (i := .istore_n 3) (j := 3) (v := .int x) rfl rfl (Nat.le_of_ble_eq_true rfl) (decide_eq_true hj) rfl
theorem sX3_wave_19 {x : Nat} : Go kX3_wave 19 [(.ref x), a1, a2, a3, a4, a5, a6] st bc bs hp Q ↔ Go kX3_wave 20 [(.ref x), a1, a2, a3, a4, a5, a6] (.ref x :: st) bc bs hp Q := Go_next (i := .aload_n 0) rfl rfl
theorem sX3_wave_20 {x : Nat} : Go kX3_wave 20 [a0, a1, a2, a3, a4, a5, a6] (.ref x :: st) bc bs hp Q ↔ RdF hp x 3 3 (fun v => Go kX3_wave 23 [a0, a1, a2, a3, a4, a5, a6] (v :: st) bc bs hp Q) := Go_getf rfl rfl
theorem sX3_wave_23 {x : Int32} : Go kX3_wave 23 [a0, a1, a2, a3, a4, a5, a6] (.int x :: st) bc bs hp Q ↔ Go kX3_wave 24 [a0, a1, a2, a3, a4, a5, a6] (.float (FP.i2f x) :: st) bc bs hp Q := Go_next (i := .i2f) rfl rfl
theorem sX3_wave_24 {x : UInt32} (hj : a3.category = 1) : Go kX3_wave 24 [a0, a1, a2, a3, a4, a5, a6] (.float x :: st) bc bs hp Q ↔ Go kX3_wave 26 [a0, a1, a2, a3, (.float x), a5, a6] st bc bs hp Q := Go_sto (i := .fstore 4) (j := 4) (v := .float x) rfl rfl (Nat.le_of_ble_eq_true rfl) (decide_eq_true hj) rfl
theorem sX3_wave_26 {x : Int32} : Go kX3_wave 26 [a0, a1, a2, (.int x), a4, a5, a6] st bc bs hp Q ↔ Go kX3_wave 27 [a0, a1, a2, (.int x), a4, a5, a6] (.int x :: st) bc bs hp Q := Go_next (i := .iload_n 3) rfl rfl
theorem sX3_wave_27 {x : Int32} : Go kX3_wave 27 [a0, a1, a2, a3, a4, a5, a6] (.int x :: st) bc bs hp Q ↔ Go kX3_wave 28 [a0, a1, a2, a3, a4, a5, a6] (.float (FP.i2f x) :: st) bc bs hp Q := Go_next (i := .i2f) rfl rfl
theorem sX3_wave_28 {x : UInt32} (hj : a4.category = 1) : Go kX3_wave 28 [a0, a1, a2, a3, a4, a5, a6] (.float x :: st) bc bs hp Q ↔ Go kX3_wave 30 [a0, a1, a2, a3, a4, (.float x), a6] st bc bs hp Q := Go_sto (i := .fstore 5) (j := 5) (v := .float x) rfl rfl (Nat.le_of_ble_eq_true rfl) (decide_eq_true hj) rfl
theorem sX3_wave_30 {x : Nat} : Go kX3_wave 30 [(.ref x), a1, a2, a3, a4, a5, a6] st bc bs hp Q ↔ Go kX3_wave 31 [(.ref x), a1, a2, a3, a4, a5, a6] (.ref x :: st) bc bs hp Q := Go_next (i := .aload_n 0) rfl rfl
theorem sX3_wave_31 {x : Nat} : Go kX3_wave 31 [a0, a1, a2, a3, a4, a5, a6] (.ref x :: st) bc bs hp Q ↔ RdF hp x 3 4 (fun v => Go kX3_wave 34 [a0, a1, a2, a3, a4, a5, a6] (v :: st) bc bs hp Q) := Go_getf rfl rfl
theorem sX3_wave_34 {x : Int32} : Go kX3_wave 34 [a0, a1, a2, a3, a4, a5, a6] (.int x :: st) bc bs hp Q ↔ Go kX3_wave 35 [a0, a1, a2, a3, a4, a5, a6] (.float (FP.i2f x) :: st) bc bs hp Q := Go_next (i := .i2f) rfl rfl
theorem sX3_wave_35 {x : UInt32} (hj : a5.category = 1) : Go kX3_wave 35 [a0, a1, a2, a3, a4, a5, a6] (.float x :: st) bc bs hp Q ↔ Go kX3_wave 37 [a0, a1, a2, a3, a4, a5, (.float x)] st bc bs hp Q := Go_sto (i := .fstore 6) (j := 6) (v := .float x) rfl rfl (Nat.le_of_ble_eq_true rfl) (decide_eq_true hj) rfl
theorem sX3_wave_37 {x : Nat} : Go kX3_wave 37 [(.ref x), a1, a2, a3, a4, a5, a6] st bc bs hp Q ↔ Go kX3_wave 38 [(.ref x), a1, a2, a3, a4, a5, a6] (.ref x :: st) bc bs hp Q := Go_next (i := .aload_n 0) rfl rfl
theorem sX3_wave_38 {x : Nat} : Go kX3_wave 38 [a0, a1, a2, a3, a4, a5, a6] (.ref x :: st) bc bs hp Q ↔ RdF hp x 3 2 (fun v => Go kX3_wave 41 [a0, a1, a2, a3, a4, a5, a6] (v :: st) bc bs hp Q) := Go_getf rfl rfl
theorem sX3_wave_41 : Go kX3_wave 41 [a0, a1, a2, a3, a4, a5, a6] st bc bs hp Q ↔ Go kX3_wave 43 [a0, a1, a2, a3, a4, a5, a6] (.int 119 :: st) bc bs hp Q := Go_next (i := .bipush 119) rfl rfl
theorem sX3_wave_43 {x y : Int32} : Go kX3_wave 43 [a0, a1, a2, a3, a4, a5, a6] (.int y :: .int x :: st) bc bs hp Q ↔ (¬ x = y → Go kX3_wave 55 [a0, a1, a2, a3, a4, a5, a6] st bc bs hp Q) ∧ (x = y → Go kX3_wave 46 [a0, a1, a2, a3, a4, a5, a6] st bc bs hp Q) := Go_ifn (c := x = y) (i := .if_icmp .ne 12) rfl rfl
theorem sX3_wave_46 {x : UInt32} : Go kX3_wave 46 [a0, a1, a2, a3, (.float x), a5, a6] st bc bs hp Q ↔ Go kX3_wave 48 [a0, a1, a2, a3, (.float x), a5, a6] (.float x :: st) bc bs hp Q := Go_next (i := .fload 4) rfl rfl
theorem sX3_wave_48 {x : UInt32} : Go kX3_wave 48 [a0, a1, a2, a3, a4, (.float x), a6] st bc bs hp Q ↔ Go kX3_wave 50 [a0, a1, a2, a3, a4, (.float x), a6] (.float x :: st) bc bs hp Q := Go_next (i := .fload 5) rfl rfl
theorem sX3_wave_50 {x : UInt32} : Go kX3_wave 50 [a0, a1, a2, a3, a4, a5, (.float x)] st bc bs hp Q ↔ Go kX3_wave 52 [a0, a1, a2, a3, a4, a5, (.float x)] (.float x :: st) bc bs hp Q := Go_next (i := .fload 6) rfl rfl
theorem sX3_wave_52 {x y : UInt32} : Go kX3_wave 52 [a0, a1, a2, a3, a4, a5, a6] (.float y :: .float x :: st) bc bs hp Q ↔ nn32 (FP.fdiv x y) = true ∧ Go kX3_wave 53 [a0, a1, a2, a3, a4, a5, a6] (.float (FP.fdiv x y) :: st) bc bs hp Q := Go_on (i := .fdiv) rfl rfl
theorem sX3_wave_53 {x y : UInt32} : Go kX3_wave 53 [a0, a1, a2, a3, a4, a5, a6] (.float y :: .float x :: st) bc bs hp Q ↔ nn32 (FP.fmul x y) = true ∧ Go kX3_wave 54 [a0, a1, a2, a3, a4, a5, a6] (.float (FP.fmul x y) :: st) bc bs hp Q := Go_on (i := .fmul) rfl rfl
theorem sX3_wave_54 {x : UInt32} : Go kX3_wave 54 [a0, a1, a2, a3, a4, a5, a6] [.float x] bc bs hp Q ↔ Q (.inl (some (.float x))) hp := Go_ret (i := .freturn) rfl rfl
theorem sX3_wave_55 {x : Nat} : Go kX3_wave 55 [(.ref x), a1, a2, a3, a4, a5, a6] st bc bs hp Q ↔ Go kX3_wave 56 [(.ref x), a1, a2, a3, a4, a5, a6] (.ref x :: st) bc bs hp Q := Go_next (i := .aload_n 0) rfl rfl
theorem sX3_wave_56 {x : Nat} : Go kX3_wave 56 [a0, a1, a2, a3, a4, a5, a6] (.ref x :: st) bc bs hp Q ↔ RdF hp x 3 2 (fun v => Go kX3_wave 59 [a0, a1, a2, a3, a4, a5, a6] (v :: st) bc bs hp Q) := Go_getf rfl rfl
theorem sX3_wave_59 : Go kX3_wave 59 [a0, a1, a2, a3, a4, a5, a6] st bc bs hp Q ↔ Go kX3_wave 61 [a0, a1, a2, a3, a4, a5, a6] (.int 116 :: st) bc bs hp Q := Go_next (i := .bipush 116) rfl rfl
theorem sX3_wave_61 {x y : Int32} : Go kX3_wave 61 [a0, a1, a2, a3, a4, a5, a6] (.int y :: .int x :: st) bc bs hp Q ↔ (¬ x = y → Go kX3_wave 100 [a0, a1, a2, a3, a4, a5, a6] st bc bs hp Q) ∧ (x = y → Go kX3_wave 64 [a0, a1, a2, a3, a4, a5, a6] st bc bs hp Q) := Go_ifn (c := x = y) (i := .if_icmp .ne 39) rfl rfl
theorem sX3_wave_64 : Go kX3_wave 64 [a0, a1, a2, a3, a4, a5, a6] st bc bs hp Q ↔ Go kX3_wave 65 [a0, a1, a2, a3, a4, a5, a6] (.int 2 :: st) bc bs hp Q := Go_next (i := .iconst 2) rfl rfl
theorem sX3_wave_65 {x : Int32} : Go kX3_wave 65 [a0, a1, a2, (.int x), a4, a5, a6] st bc bs hp Q ↔ Go kX3_wave 66 [a0, a1, a2, (.int x), a4, a5, a6] (.int x :: st) bc bs hp Q := Go_next (i := .iload_n 3) rfl rfl
theorem sX3_wave_66 {x y : Int32} : Go kX3_wave 66 [a0, a1, a2, a3, a4, a5, a6] (.int y :: .int x :: st) bc bs hp Q ↔ Go kX3_wave 67 [a0, a1, a2, a3, a4, a5, a6] (.int (x * y) :: st) bc bs hp Q := Go_next (i := .imul) rfl rfl
theorem sX3_wave_67 {x : Nat} : Go kX3_wave 67 [(.ref x), a1, a2, a3, a4, a5, a6] st bc bs hp Q ↔ Go kX3_wave 68 [(.ref x), a1, a2, a3, a4, a5, a6] (.ref x :: st) bc bs hp Q := Go_next (i := .aload_n 0) rfl rfl
theorem sX3_wave_68 {x : Nat} : Go kX3_wave 68 [a0, a1, a2, a3, a4, a5, a6] (.ref x :: st) bc bs hp Q ↔ RdF hp x 3 4 (fun v => Go kX3_wave 71 [a0, a1, a2, a3, a4, a5, a6] (v :: st) bc bs hp Q) := Go_getf rfl rfl
theorem sX3_wave_71 {x y : Int32} : Go kX3_wave 71 [a0, a1, a2, a3, a4, a5, a6] (.int y :: .int x :: st) bc bs hp Q ↔ (x ≤ y → Go kX3_wave 89 [a0, a1, a2, a3, a4, a5, a6] st bc bs hp Q) ∧ (¬ x ≤ y → Go kX3_wave 74 [a0, a1, a2, a3, a4, a5, a6] st bc bs hp Q) := Go_ift (c := x ≤ y) (i := .if_icmp .le 18) rfl rfl
theorem sX3_wave_74 {x : UInt32} : Go kX3_wave 74 [a0, a1, a2, a3, (.float x), a5, a6] st bc bs hp Q ↔ Go kX3_wave 76 [a0, a1, a2, a3, (.float x), a5, a6] (.float x :: st) bc bs hp Q := Go_next (i := .fload 4) rfl rfl
theorem sX3_wave_76 : Go kX3_wave 76 [a0, a1, a2, a3, a4, a5, a6] st bc bs hp Q ↔ Go kX3_wave 77 [a0, a1, a2, a3, a4, a5, a6] (.float FP.fconst2 :: st) bc bs hp Q := Go_next (i := .fconst 2) rfl rfl
theorem sX3_wave_77 : Go kX3_wave 77 [a0, a1, a2, a3, a4, a5, a6] st bc bs hp Q ↔ Go kX3_wave 78 [a0, a1, a2, a3, a4, a5, a6] (.float FP.fconst2 :: st) bc bs hp Q := Go_next (i := .fconst 2) rfl rfl
theorem sX3_wave_78 {x : UInt32} : Go kX3_wave 78 [a0, a1, a2, a3, a4, (.float x), a6] st bc bs hp Q ↔ Go kX3_wave 80 [a0, a1, a2, a3, a4, (.float x), a6] (.float x :: st) bc bs hp Q := Go_next (i := .fload 5) rfl rfl
theorem sX3_wave_80 {x y : UInt32} : Go kX3_wave 80 [a0, a1, a2, a3, a4, a5, a6] (.float y :: .float x :: st) bc bs hp Q ↔ nn32 (FP.fmul x y) = true ∧ Go kX3_wave 81 [a0, a1, a2, a3, a4, a5, a6] (.float (FP.fmul x y) :: st) bc bs hp Q := Go_on (i := .fmul) rfl rfl
theorem sX3_wave_81 {x : UInt32} : Go kX3_wave 81 [a0, a1, a2, a3, a4, a5, (.float x)] st bc bs hp Q ↔ Go kX3_wave 83 [a0, a1, a2, a3, a4, a5, (.float x)] (.float x :: st) bc bs hp Q := Go_next (i := .fload 6) rfl rfl
theorem sX3_wave_83 {x y : UInt32} : Go kX3_wave 83 [a0, a1, a2, a3, a4, a5, a6] (.float y :: .float x :: st) bc bs hp Q ↔ nn32 (FP.fdiv x y) = true ∧ Go kX3_wave 84 [a0, a1, a2, a3, a4, a5, a6] (.float (FP.fdiv x y) :: st) bc bs hp Q := Go_on (i := .fdiv) rfl rfl
theorem sX3_wave_84 {x y : UInt32} : Go kX3_wave 84 [a0, a1, a2, a3, a4, a5, a6] (.float y :: .float x :: st) bc bs hp Q ↔ nn32 (FP.fsub x y) = true ∧ Go kX3_wave 85 [a0, a1, a2, a3, a4, a5, a6] (.float (FP.fsub x y) :: st) bc bs hp Q := Go_on (i := .fsub) rfl rfl
theorem sX3_wave_85 {x y : UInt32} : Go kX3_wave 85 [a0, a1, a2, a3, a4, a5, a6] (.float y :: .float x :: st) bc bs hp Q ↔ nn32 (FP.fmul x y) = true ∧ Go kX3_wave 86 [a0, a1, a2, a3, a4, a5, a6] (.float (FP.fmul x y) :: st) bc bs hp Q := Go_on (i := .fmul) rfl rfl
theorem sX3_wave_86 : Go kX3_wave 86 [a0, a1, a2, a3, a4, a5, a6] st bc bs hp Q ↔ Go kX3_wave 99 [a0, a1, a2, a3, a4, a5, a6] st bc bs hp Q := Go_next (i := .goto 13) rfl rfl
theorem sX3_wave_89 {x : UInt32} : Go kX3_wave 89 [a0, a1, a2, a3, (.float x), a5, a6] st bc bs hp Q ↔ Go kX3_wave 91 [a0, a1, a2, a3, (.float x), a5, a6] (.float x :: st) bc bs hp Q := Go_next (i := .fload 4) rfl rfl
theorem sX3_wave_91 : Go kX3_wave 91 [a0, a1, a2, a3, a4, a5, a6] st bc bs hp Q ↔ Go kX3_wave 92 [a0, a1, a2, a3, a4, a5, a6] (.float FP.fconst2 :: st) bc bs hp Q := Go_next (i := .fconst 2) rfl rfl
theorem sX3_wave_92 {x : UInt32} : Go kX3_wave 92 [a0, a1, a2, a3, a4, (.float x), a6] st bc bs hp Q ↔ Go kX3_wave 94 [a0, a1, a2, a3, a4, (.float x), a6] (.float x :: st) bc bs hp Q := Go_next (i := .fload 5) rfl rfl
theorem sX3_wave_94 {x y : UInt32} : Go kX3_wave 94 [a0, a1, a2, a3, a4, a5, a6] (.float y :: .float x :: st) bc bs hp Q ↔ nn32 (FP.fmul x y) = true ∧ Go kX3_wave 95 [a0, a1, a2, a3, a4, a5, a6] (.float (FP.fmul x y) :: st) bc bs hp Q := Go_on (i := .fmul) rfl rfl
theorem sX3_wave_95 {x : UInt32} : Go kX3_wave 95 [a0, a1, a2, a3, a4, a5, (.float x)] st bc bs hp Q ↔ Go kX3_wave 97 [a0, a1, a2, a3, a4, a5, (.float x)] (.float x :: st) bc bs hp Q := Go_next (i := .fload 6) rfl rfl
theorem sX3_wave_97 {x y : UInt32} : Go kX3_wave 97 [a0, a1, a2, a3, a4, a5, a6] (.float y :: .float x :: st) bc bs hp Q ↔ nn32 (FP.fdiv x y) = true ∧ Go kX3_wave 98 [a0, a1, a2, a3, a4, a5, a6] (.float (FP.fdiv x y) :: st) bc bs hp Q := Go_on (i := .fdiv) rfl rfl
theorem sX3_wave_98 {x y : UInt32} : Go kX3_wave 98 [a0, a1, a2, a3, a4, a5, a6] (.float y :: .float x :: st) bc bs hp Q ↔ nn32 (FP.fmul x y) = true ∧ Go kX3_wave 99 [a0, a1, a2, a3, a4, a5, a6] (.float (FP.fmul x y) :: st) bc bs hp Q := Go_on (i := .fmul) rfl rfl
theorem sX3_wave_99 {x : UInt32} : Go kX3_wave 99 [a0, a1, a2, a3, a4, a5, a6] [.float x] bc bs hp Q ↔ Q (.inl (some (.float x))) hp := Go_ret (i := .freturn) rfl rfl
theorem sX3_wave_100 : Go kX3_wave 100 [a0, a1, a2, a3, a4, a5, a6] st bc bs hp Q ↔ Go kX3_wave 101 [a0, a1, a2, a3, a4, a5, a6] (.int 2 :: st) bc bs hp Q := Go_next (i := .iconst 2) rfl rfl
theorem sX3_wave_101 {x : Int32} : Go kX3_wave 101 [a0, a1, a2, (.int x), a4, a5, a6] st bc bs hp Q ↔ Go kX3_wave 102 [a0, a1, a2, (.int x), a4, a5, a6] (.int x :: st) bc bs hp Q := Go_next (i := .iload_n 3) rfl rfl
theorem sX3_wave_102 {x y : Int32} : Go kX3_wave 102 [a0, a1, a2, a3, a4, a5, a6] (.int y :: .int x :: st) bc bs hp Q ↔ Go kX3_wave 103 [a0, a1, a2, a3, a4, a5, a6] (.int (x * y) :: st) bc bs hp Q := Go_next (i := .imul) rfl rfl
theorem sX3_wave_103 {x : Nat} : Go kX3_wave 103 [(.ref x), a1, a2, a3, a4, a5, a6] st bc bs hp Q ↔ Go kX3_wave 104 [(.ref x), a1, a2, a3, a4, a5, a6] (.ref x :: st) bc bs hp Q := Go_next (i := .aload_n 0) rfl rfl
theorem sX3_wave_104 {x : Nat} : Go kX3_wave 104 [a0, a1, a2, a3, a4, a5, a6] (.ref x :: st) bc bs hp Q ↔ RdF hp x 3 4 (fun v => Go kX3_wave 107 [a0, a1, a2, a3, a4, a5, a6] (v :: st) bc bs hp Q) := Go_getf rfl rfl
theorem sX3_wave_107 {x y : Int32} : Go kX3_wave 107 [a0, a1, a2, a3, a4, a5, a6] (.int y :: .int x :: st) bc bs hp Q ↔ (y ≤ x → Go kX3_wave 115 [a0, a1, a2, a3, a4, a5, a6] st bc bs hp Q) ∧ (¬ y ≤ x → Go kX3_wave 110 [a0, a1, a2, a3, a4, a5, a6] st bc bs hp Q) := Go_ift (c := y ≤ x) (i := .if_icmp .ge 8) rfl rfl
theorem sX3_wave_110 {x : UInt32} : Go kX3_wave 110 [a0, a1, a2, a3, (.float x), a5, a6] st bc bs hp Q ↔ Go kX3_wave 112 [a0, a1, a2, a3, (.float x), a5, a6] (.float x :: st) bc bs hp Q := Go_next (i := .fload 4) rfl rfl
theorem sX3_wave_112 : Go kX3_wave 112 [a0, a1, a2, a3, a4, a5, a6] st bc bs hp Q ↔ Go kX3_wave 116 [a0, a1, a2, a3, a4, a5, a6] st bc bs hp Q := Go_next (i := .goto 4) rfl rfl
theorem sX3_wave_115 : Go kX3_wave 115 [a0, a1, a2, a3, a4, a5, a6] st bc bs hp Q ↔ Go kX3_wave 116 [a0, a1, a2, a3, a4, a5, a6] (.float FP.fconst0 :: st) bc bs hp Q := Go_next (i := .fconst 0) rfl rfl
theorem sX3_wave_116 {x : UInt32} : Go kX3_wave 116 [a0, a1, a2, a3, a4, a5, a6] [.float x] bc bs hp Q ↔ Q (.inl (some (.float x))) hp := Go_ret (i := .freturn) rfl rfl
theorem sX4_init_0 {x : Nat} : Go kX4_init 0 [(.ref x), a1] st bc bs hp Q ↔ Go kX4_init 1 [(.ref x), a1] (.ref x :: st) bc bs hp Q := Go_next (i := .aload_n 0) rfl rfl
theorem sX4_init_1 {x : Nat} : Go kX4_init 1 [a0, a1] (.ref x :: st) bc bs hp Q ↔ nsum st ≤ 8 ∧ Go kX4_init 4 [a0, a1] st bc bs hp Q := Go_on (i := .invokespecial 3) rfl rfl
theorem sX4_init_4 {x : Nat} : Go kX4_init 4 [(.ref x), a1] st bc bs hp Q ↔ Go kX4_init 5 [(.ref x), a1] (.ref x :: st) bc bs hp Q := Go_next (i := .aload_n 0) rfl rfl
theorem sX4_init_5 : Go kX4_init 5 [a0, a1] st bc bs hp Q ↔ Go kX4_init 7 [a0, a1] (.int 48 :: st) bc bs hp Q := Go_next (i := .bipush 48) rfl rfl
theorem sX4_init_7 : Go kX4_init 7 [a0, a1] (.int 48 :: st) bc bs hp Q ↔ (1 ≤ bc ∧ 48 ≤ bs) ∧ Go kX4_init 9 [a0, a1] (.ref (hp.1 + 1) :: st) (bc - 1) (bs - 48) (addHp hp (.inl (0, 48, .inl fun _ => 0))) Q := Go_newa (q := 48) (ty := .int) rfl rfl (by decide) (by decide) rfl rfl
theorem sX4_init_9 {x : Nat} {y : Nat} : Go kX4_init 9 [a0, a1] (.ref y :: .ref x :: st) bc bs hp Q ↔ WrF hp x 4 0 (.ref y) (fun hp => Go kX4_init 12 [a0, a1] st bc bs hp Q) := Go_puti rfl rfl (putOK_of rfl rfl rfl)
theorem sX4_init_12 : Go kX4_init 12 [a0, a1] st bc bs hp Q ↔ Go kX4_init 13 [a0, a1] (.int 0 :: st) bc bs hp Q := Go_next (i := .iconst 0) rfl rfl
theorem sX4_init_13 {x : Int32} (hj : a0.category = 1) : Go kX4_init 13 [a0, a1] (.int x :: st) bc bs hp Q ↔ Go kX4_init 14 [a0, (.int x)] st bc bs hp Q := Go_sto (i := .istore_n 1) (j := 1) (v := .int x) rfl rfl (Nat.le_of_ble_eq_true rfl) (decide_eq_true hj) rfl
theorem sX4_init_14 {x : Int32} : Go kX4_init 14 [a0, (.int x)] st bc bs hp Q ↔ Go kX4_init 15 [a0, (.int x)] (.int x :: st) bc bs hp Q := Go_next (i := .iload_n 1) rfl rfl
theorem sX4_init_15 : Go kX4_init 15 [a0, a1] st bc bs hp Q ↔ Go kX4_init 17 [a0, a1] (.int 48 :: st) bc bs hp Q := Go_next (i := .bipush 48) rfl rfl
theorem sX4_init_17 {x y : Int32} : Go kX4_init 17 [a0, a1] (.int y :: .int x :: st) bc bs hp Q ↔ (y ≤ x → Go kX4_init 33 [a0, a1] st bc bs hp Q) ∧ (¬ y ≤ x → Go kX4_init 20 [a0, a1] st bc bs hp Q) := Go_ift (c := y ≤ x) (i := .if_icmp .ge 16) rfl rfl
theorem sX4_init_20 {x : Nat} : Go kX4_init 20 [(.ref x), a1] st bc bs hp Q ↔ Go kX4_init 21 [(.ref x), a1] (.ref x :: st) bc bs hp Q := Go_next (i := .aload_n 0) rfl rfl
theorem sX4_init_21 {x : Nat} : Go kX4_init 21 [a0, a1] (.ref x :: st) bc bs hp Q ↔ RdF hp x 4 0 (fun v => Go kX4_init 24 [a0, a1] (v :: st) bc bs hp Q) := Go_getf rfl rfl
theorem sX4_init_24 {x : Int32} : Go kX4_init 24 [a0, (.int x)] st bc bs hp Q ↔ Go kX4_init 25 [a0, (.int x)] (.int x :: st) bc bs hp Q := Go_next (i := .iload_n 1) rfl rfl
theorem sX4_init_25 : Go kX4_init 25 [a0, a1] st bc bs hp Q ↔ Go kX4_init 26 [a0, a1] (.int (-1) :: st) bc bs hp Q := Go_next (i := .iconst (-1)) rfl rfl
theorem sX4_init_26 {x : Nat} {i : Int32} {y : Int32} : Go kX4_init 26 [a0, a1] (.int y :: .int i :: .ref x :: st) bc bs hp Q ↔ WrA hp x 0 i y (fun hp => Go kX4_init 27 [a0, a1] st bc bs hp Q) := Go_iast rfl
theorem sX4_init_27 {x : Int32} (hj : a0.category = 1) : Go kX4_init 27 [a0, (.int x)] st bc bs hp Q ↔ Go kX4_init 30 [a0, (.int (x + 1))] st bc bs hp Q := Go_sto (i := .iinc 1 1) (j := 1) (v := .int (x + 1)) rfl rfl (Nat.le_of_ble_eq_true rfl) (decide_eq_true hj) rfl
theorem sX4_init_30 : Go kX4_init 30 [a0, a1] st bc bs hp Q ↔ Go kX4_init 14 [a0, a1] st bc bs hp Q := Go_next (i := .goto (-16)) rfl rfl
theorem sX4_init_33 : Go kX4_init 33 [a0, a1] [] bc bs hp Q ↔ Q (.inl none) hp := Go_ret (i := .return_) rfl rfl
theorem sX4_has_0 {x : Nat} : Go kX4_has 0 [(.ref x), a1] st bc bs hp Q ↔ Go kX4_has 1 [(.ref x), a1] (.ref x :: st) bc bs hp Q := Go_next (i := .aload_n 0) rfl rfl
theorem sX4_has_1 {x : Nat} : Go kX4_has 1 [a0, a1] (.ref x :: st) bc bs hp Q ↔ RdF hp x 4 0 (fun v => Go kX4_has 4 [a0, a1] (v :: st) bc bs hp Q) := Go_getf rfl rfl
theorem sX4_has_4 {x : Int32} : Go kX4_has 4 [a0, (.int x)] st bc bs hp Q ↔ Go kX4_has 5 [a0, (.int x)] (.int x :: st) bc bs hp Q := Go_next (i := .iload_n 1) rfl rfl
theorem sX4_has_5 {x : Nat} {i : Int32} : Go kX4_has 5 [a0, a1] (.int i :: .ref x :: st) bc bs hp Q ↔ RdA hp x 0 i (fun v => Go kX4_has 6 [a0, a1] (.int v :: st) bc bs hp Q) := Go_iald rfl
theorem sX4_has_6 : Go kX4_has 6 [a0, a1] st bc bs hp Q ↔ Go kX4_has 7 [a0, a1] (.int (-1) :: st) bc bs hp Q := Go_next (i := .iconst (-1)) rfl rfl
theorem sX4_has_7 {x y : Int32} : Go kX4_has 7 [a0, a1] (.int y :: .int x :: st) bc bs hp Q ↔ (x = y → Go kX4_has 14 [a0, a1] st bc bs hp Q) ∧ (¬ x = y → Go kX4_has 10 [a0, a1] st bc bs hp Q) := Go_ift (c := x = y) (i := .if_icmp .eq 7) rfl rfl
theorem sX4_has_10 : Go kX4_has 10 [a0, a1] st bc bs hp Q ↔ Go kX4_has 11 [a0, a1] (.int 1 :: st) bc bs hp Q := Go_next (i := .iconst 1) rfl rfl
theorem sX4_has_11 : Go kX4_has 11 [a0, a1] st bc bs hp Q ↔ Go kX4_has 15 [a0, a1] st bc bs hp Q := Go_next (i := .goto 4) rfl rfl
theorem sX4_has_14 : Go kX4_has 14 [a0, a1] st bc bs hp Q ↔ Go kX4_has 15 [a0, a1] (.int 0 :: st) bc bs hp Q := Go_next (i := .iconst 0) rfl rfl
theorem sX4_has_15 {x : Int32} : Go kX4_has 15 [a0, a1] [.int x] bc bs hp Q ↔ outI kX4_has x = true ∧ Q (.inl (some (.int x))) hp := Go_retIf (i := .ireturn) rfl rfl
theorem sX4_put_0 {x : Nat} : Go kX4_put 0 [(.ref x), a1, a2] st bc bs hp Q ↔ Go kX4_put 1 [(.ref x), a1, a2] (.ref x :: st) bc bs hp Q := Go_next (i := .aload_n 0) rfl rfl
theorem sX4_put_1 {x : Nat} : Go kX4_put 1 [a0, a1, a2] (.ref x :: st) bc bs hp Q ↔ RdF hp x 4 0 (fun v => Go kX4_put 4 [a0, a1, a2] (v :: st) bc bs hp Q) := Go_getf rfl rfl
theorem sX4_put_4 {x : Int32} : Go kX4_put 4 [a0, (.int x), a2] st bc bs hp Q ↔ Go kX4_put 5 [a0, (.int x), a2] (.int x :: st) bc bs hp Q := Go_next (i := .iload_n 1) rfl rfl
theorem sX4_put_5 {x : Nat} {i : Int32} : Go kX4_put 5 [a0, a1, a2] (.int i :: .ref x :: st) bc bs hp Q ↔ RdA hp x 0 i (fun v => Go kX4_put 6 [a0, a1, a2] (.int v :: st) bc bs hp Q) := Go_iald rfl
theorem sX4_put_6 : Go kX4_put 6 [a0, a1, a2] st bc bs hp Q ↔ Go kX4_put 7 [a0, a1, a2] (.int (-1) :: st) bc bs hp Q := Go_next (i := .iconst (-1)) rfl rfl
theorem sX4_put_7 {x y : Int32} : Go kX4_put 7 [a0, a1, a2] (.int y :: .int x :: st) bc bs hp Q ↔ (¬ x = y → Go kX4_put 20 [a0, a1, a2] st bc bs hp Q) ∧ (x = y → Go kX4_put 10 [a0, a1, a2] st bc bs hp Q) := Go_ifn (c := x = y) (i := .if_icmp .ne 13) rfl rfl
theorem sX4_put_10 {x : Nat} : Go kX4_put 10 [(.ref x), a1, a2] st bc bs hp Q ↔ Go kX4_put 11 [(.ref x), a1, a2] (.ref x :: st) bc bs hp Q := Go_next (i := .aload_n 0) rfl rfl
theorem sX4_put_11 {x : Nat} : Go kX4_put 11 [a0, a1, a2] (.ref x :: st) bc bs hp Q ↔ Go kX4_put 12 [a0, a1, a2] (.ref x :: .ref x :: st) bc bs hp Q := Go_next (i := .dup) rfl rfl
theorem sX4_put_12 {x : Nat} : Go kX4_put 12 [a0, a1, a2] (.ref x :: st) bc bs hp Q ↔ RdF hp x 4 1 (fun v => Go kX4_put 15 [a0, a1, a2] (v :: st) bc bs hp Q) := Go_getf rfl rfl
theorem sX4_put_15 : Go kX4_put 15 [a0, a1, a2] st bc bs hp Q ↔ Go kX4_put 16 [a0, a1, a2] (.int 1 :: st) bc bs hp Q := Go_next (i := .iconst 1) rfl rfl
theorem sX4_put_16 {x y : Int32} : Go kX4_put 16 [a0, a1, a2] (.int y :: .int x :: st) bc bs hp Q ↔ Go kX4_put 17 [a0, a1, a2] (.int (x + y) :: st) bc bs hp Q := Go_next (i := .iadd) rfl rfl
theorem sX4_put_17 {x : Nat} {y : Int32} : Go kX4_put 17 [a0, a1, a2] (.int y :: .ref x :: st) bc bs hp Q ↔ WrF hp x 4 1 (.int y) (fun hp => Go kX4_put 20 [a0, a1, a2] st bc bs hp Q) := Go_puti rfl rfl (putOK_of rfl rfl rfl)
theorem sX4_put_20 {x : Nat} : Go kX4_put 20 [(.ref x), a1, a2] st bc bs hp Q ↔ Go kX4_put 21 [(.ref x), a1, a2] (.ref x :: st) bc bs hp Q := Go_next (i := .aload_n 0) rfl rfl
theorem sX4_put_21 {x : Nat} : Go kX4_put 21 [a0, a1, a2] (.ref x :: st) bc bs hp Q ↔ RdF hp x 4 0 (fun v => Go kX4_put 24 [a0, a1, a2] (v :: st) bc bs hp Q) := Go_getf rfl rfl
theorem sX4_put_24 {x : Int32} : Go kX4_put 24 [a0, (.int x), a2] st bc bs hp Q ↔ Go kX4_put 25 [a0, (.int x), a2] (.int x :: st) bc bs hp Q := Go_next (i := .iload_n 1) rfl rfl
theorem sX4_put_25 {x : Int32} : Go kX4_put 25 [a0, a1, (.int x)] st bc bs hp Q ↔ Go kX4_put 26 [a0, a1, (.int x)] (.int x :: st) bc bs hp Q := Go_next (i := .iload_n 2) rfl rfl
theorem sX4_put_26 {x : Nat} {i : Int32} {y : Int32} : Go kX4_put 26 [a0, a1, a2] (.int y :: .int i :: .ref x :: st) bc bs hp Q ↔ WrA hp x 0 i y (fun hp => Go kX4_put 27 [a0, a1, a2] st bc bs hp Q) := Go_iast rfl
theorem sX4_put_27 {x : Nat} : Go kX4_put 27 [(.ref x), a1, a2] st bc bs hp Q ↔ Go kX4_put 28 [(.ref x), a1, a2] (.ref x :: st) bc bs hp Q := Go_next (i := .aload_n 0) rfl rfl
theorem sX4_put_28 {x : Nat} : Go kX4_put 28 [a0, a1, a2] (.ref x :: st) bc bs hp Q ↔ RdF hp x 4 1 (fun v => Go kX4_put 31 [a0, a1, a2] (v :: st) bc bs hp Q) := Go_getf rfl rfl
theorem sX4_put_31 {x : Int32} : Go kX4_put 31 [a0, a1, a2] [.int x] bc bs hp Q ↔ Q (.inl (some (.int x))) hp := Go_ret (i := .ireturn) rfl rfl
theorem sX4_drop_0 {x : Nat} : Go kX4_drop 0 [(.ref x), a1] st bc bs hp Q ↔ Go kX4_drop 1 [(.ref x), a1] (.ref x :: st) bc bs hp Q := Go_next (i := .aload_n 0) rfl rfl
theorem sX4_drop_1 {x : Nat} : Go kX4_drop 1 [a0, a1] (.ref x :: st) bc bs hp Q ↔ RdF hp x 4 0 (fun v => Go kX4_drop 4 [a0, a1] (v :: st) bc bs hp Q) := Go_getf rfl rfl
theorem sX4_drop_4 {x : Int32} : Go kX4_drop 4 [a0, (.int x)] st bc bs hp Q ↔ Go kX4_drop 5 [a0, (.int x)] (.int x :: st) bc bs hp Q := Go_next (i := .iload_n 1) rfl rfl
theorem sX4_drop_5 {x : Nat} {i : Int32} : Go kX4_drop 5 [a0, a1] (.int i :: .ref x :: st) bc bs hp Q ↔ RdA hp x 0 i (fun v => Go kX4_drop 6 [a0, a1] (.int v :: st) bc bs hp Q) := Go_iald rfl
theorem sX4_drop_6 : Go kX4_drop 6 [a0, a1] st bc bs hp Q ↔ Go kX4_drop 7 [a0, a1] (.int (-1) :: st) bc bs hp Q := Go_next (i := .iconst (-1)) rfl rfl
theorem sX4_drop_7 {x y : Int32} : Go kX4_drop 7 [a0, a1] (.int y :: .int x :: st) bc bs hp Q ↔ (x = y → Go kX4_drop 20 [a0, a1] st bc bs hp Q) ∧ (¬ x = y → Go kX4_drop 10 [a0, a1] st bc bs hp Q) := Go_ift (c := x = y) (i := .if_icmp .eq 13) rfl rfl
theorem sX4_drop_10 {x : Nat} : Go kX4_drop 10 [(.ref x), a1] st bc bs hp Q ↔ Go kX4_drop 11 [(.ref x), a1] (.ref x :: st) bc bs hp Q := Go_next (i := .aload_n 0) rfl rfl
theorem sX4_drop_11 {x : Nat} : Go kX4_drop 11 [a0, a1] (.ref x :: st) bc bs hp Q ↔ Go kX4_drop 12 [a0, a1] (.ref x :: .ref x :: st) bc bs hp Q := Go_next (i := .dup) rfl rfl
theorem sX4_drop_12 {x : Nat} : Go kX4_drop 12 [a0, a1] (.ref x :: st) bc bs hp Q ↔ RdF hp x 4 1 (fun v => Go kX4_drop 15 [a0, a1] (v :: st) bc bs hp Q) := Go_getf rfl rfl
theorem sX4_drop_15 : Go kX4_drop 15 [a0, a1] st bc bs hp Q ↔ Go kX4_drop 16 [a0, a1] (.int 1 :: st) bc bs hp Q := Go_next (i := .iconst 1) rfl rfl
theorem sX4_drop_16 {x y : Int32} : Go kX4_drop 16 [a0, a1] (.int y :: .int x :: st) bc bs hp Q ↔ Go kX4_drop 17 [a0, a1] (.int (x - y) :: st) bc bs hp Q := Go_next (i := .isub) rfl rfl
theorem sX4_drop_17 {x : Nat} {y : Int32} : Go kX4_drop 17 [a0, a1] (.int y :: .ref x :: st) bc bs hp Q ↔ WrF hp x 4 1 (.int y) (fun hp => Go kX4_drop 20 [a0, a1] st bc bs hp Q) := Go_puti rfl rfl (putOK_of rfl rfl rfl)
theorem sX4_drop_20 {x : Nat} : Go kX4_drop 20 [(.ref x), a1] st bc bs hp Q ↔ Go kX4_drop 21 [(.ref x), a1] (.ref x :: st) bc bs hp Q := Go_next (i := .aload_n 0) rfl rfl
theorem sX4_drop_21 {x : Nat} : Go kX4_drop 21 [a0, a1] (.ref x :: st) bc bs hp Q ↔ RdF hp x 4 0 (fun v => Go kX4_drop 24 [a0, a1] (v :: st) bc bs hp Q) := Go_getf rfl rfl
theorem sX4_drop_24 {x : Int32} : Go kX4_drop 24 [a0, (.int x)] st bc bs hp Q ↔ Go kX4_drop 25 [a0, (.int x)] (.int x :: st) bc bs hp Q := Go_next (i := .iload_n 1) rfl rfl
theorem sX4_drop_25 : Go kX4_drop 25 [a0, a1] st bc bs hp Q ↔ Go kX4_drop 26 [a0, a1] (.int (-1) :: st) bc bs hp Q := Go_next (i := .iconst (-1)) rfl rfl
theorem sX4_drop_26 {x : Nat} {i : Int32} {y : Int32} : Go kX4_drop 26 [a0, a1] (.int y :: .int i :: .ref x :: st) bc bs hp Q ↔ WrA hp x 0 i y (fun hp => Go kX4_drop 27 [a0, a1] st bc bs hp Q) := Go_iast rfl
theorem sX4_drop_27 {x : Nat} : Go kX4_drop 27 [(.ref x), a1] st bc bs hp Q ↔ Go kX4_drop 28 [(.ref x), a1] (.ref x :: st) bc bs hp Q := Go_next (i := .aload_n 0) rfl rfl
theorem sX4_drop_28 {x : Nat} : Go kX4_drop 28 [a0, a1] (.ref x :: st) bc bs hp Q ↔ RdF hp x 4 1 (fun v => Go kX4_drop 31 [a0, a1] (v :: st) bc bs hp Q) := Go_getf rfl rfl
theorem sX4_drop_31 {x : Int32} : Go kX4_drop 31 [a0, a1] [.int x] bc bs hp Q ↔ Q (.inl (some (.int x))) hp := Go_ret (i := .ireturn) rfl rfl
theorem sX4_empty_0 {x : Nat} : Go kX4_empty 0 [(.ref x), a1, a2] st bc bs hp Q ↔ Go kX4_empty 1 [(.ref x), a1, a2] (.ref x :: st) bc bs hp Q := Go_next (i := .aload_n 0) rfl rfl
theorem sX4_empty_1 {x : Nat} : Go kX4_empty 1 [a0, a1, a2] (.ref x :: st) bc bs hp Q ↔ RdF hp x 4 1 (fun v => Go kX4_empty 4 [a0, a1, a2] (v :: st) bc bs hp Q) := Go_getf rfl rfl
theorem sX4_empty_4 {x : Int32} (hj : a0.category = 1) : Go kX4_empty 4 [a0, a1, a2] (.int x :: st) bc bs hp Q ↔ Go kX4_empty 5 [a0, (.int x), a2] st bc bs hp Q := Go_sto (i := .istore_n 1) (j := 1) (v := .int x) rfl rfl (Nat.le_of_ble_eq_true rfl) (decide_eq_true hj) rfl
theorem sX4_empty_5 : Go kX4_empty 5 [a0, a1, a2] st bc bs hp Q ↔ Go kX4_empty 6 [a0, a1, a2] (.int 0 :: st) bc bs hp Q := Go_next (i := .iconst 0) rfl rfl
theorem sX4_empty_6 {x : Int32} (hj : a1.category = 1) : Go kX4_empty 6 [a0, a1, a2] (.int x :: st) bc bs hp Q ↔ Go kX4_empty 7 [a0, a1, (.int x)] st bc bs hp Q := Go_sto (i := .istore_n 2) (j := 2) (v := .int x) rfl rfl (Nat.le_of_ble_eq_true rfl) (decide_eq_true hj) rfl
theorem sX4_empty_7 {x : Int32} : Go kX4_empty 7 [a0, a1, (.int x)] st bc bs hp Q ↔ Go kX4_empty 8 [a0, a1, (.int x)] (.int x :: st) bc bs hp Q := Go_next (i := .iload_n 2) rfl rfl
theorem sX4_empty_8 : Go kX4_empty 8 [a0, a1, a2] st bc bs hp Q ↔ Go kX4_empty 10 [a0, a1, a2] (.int 48 :: st) bc bs hp Q := Go_next (i := .bipush 48) rfl rfl
theorem sX4_empty_10 {x y : Int32} : Go kX4_empty 10 [a0, a1, a2] (.int y :: .int x :: st) bc bs hp Q ↔ (y ≤ x → Go kX4_empty 26 [a0, a1, a2] st bc bs hp Q) ∧ (¬ y ≤ x → Go kX4_empty 13 [a0, a1, a2] st bc bs hp Q) := Go_ift (c := y ≤ x) (i := .if_icmp .ge 16) rfl rfl
theorem sX4_empty_13 {x : Nat} : Go kX4_empty 13 [(.ref x), a1, a2] st bc bs hp Q ↔ Go kX4_empty 14 [(.ref x), a1, a2] (.ref x :: st) bc bs hp Q := Go_next (i := .aload_n 0) rfl rfl
theorem sX4_empty_14 {x : Nat} : Go kX4_empty 14 [a0, a1, a2] (.ref x :: st) bc bs hp Q ↔ RdF hp x 4 0 (fun v => Go kX4_empty 17 [a0, a1, a2] (v :: st) bc bs hp Q) := Go_getf rfl rfl
theorem sX4_empty_17 {x : Int32} : Go kX4_empty 17 [a0, a1, (.int x)] st bc bs hp Q ↔ Go kX4_empty 18 [a0, a1, (.int x)] (.int x :: st) bc bs hp Q := Go_next (i := .iload_n 2) rfl rfl
theorem sX4_empty_18 : Go kX4_empty 18 [a0, a1, a2] st bc bs hp Q ↔ Go kX4_empty 19 [a0, a1, a2] (.int (-1) :: st) bc bs hp Q := Go_next (i := .iconst (-1)) rfl rfl
theorem sX4_empty_19 {x : Nat} {i : Int32} {y : Int32} : Go kX4_empty 19 [a0, a1, a2] (.int y :: .int i :: .ref x :: st) bc bs hp Q ↔ WrA hp x 0 i y (fun hp => Go kX4_empty 20 [a0, a1, a2] st bc bs hp Q) := Go_iast rfl
theorem sX4_empty_20 {x : Int32} (hj : a1.category = 1) : Go kX4_empty 20 [a0, a1, (.int x)] st bc bs hp Q ↔ Go kX4_empty 23 [a0, a1, (.int (x + 1))] st bc bs hp Q := Go_sto (i := .iinc 2 1) (j := 2) (v := .int (x + 1)) rfl rfl (Nat.le_of_ble_eq_true rfl) (decide_eq_true hj) rfl
theorem sX4_empty_23 : Go kX4_empty 23 [a0, a1, a2] st bc bs hp Q ↔ Go kX4_empty 7 [a0, a1, a2] st bc bs hp Q := Go_next (i := .goto (-16)) rfl rfl
theorem sX4_empty_26 {x : Nat} : Go kX4_empty 26 [(.ref x), a1, a2] st bc bs hp Q ↔ Go kX4_empty 27 [(.ref x), a1, a2] (.ref x :: st) bc bs hp Q := Go_next (i := .aload_n 0) rfl rfl
theorem sX4_empty_27 : Go kX4_empty 27 [a0, a1, a2] st bc bs hp Q ↔ Go kX4_empty 28 [a0, a1, a2] (.int 0 :: st) bc bs hp Q := Go_next (i := .iconst 0) rfl rfl
theorem sX4_empty_28 {x : Nat} {y : Int32} : Go kX4_empty 28 [a0, a1, a2] (.int y :: .ref x :: st) bc bs hp Q ↔ WrF hp x 4 1 (.int y) (fun hp => Go kX4_empty 31 [a0, a1, a2] st bc bs hp Q) := Go_puti rfl rfl (putOK_of rfl rfl rfl)
theorem sX4_empty_31 {x : Int32} : Go kX4_empty 31 [a0, (.int x), a2] st bc bs hp Q ↔ Go kX4_empty 32 [a0, (.int x), a2] (.int x :: st) bc bs hp Q := Go_next (i := .iload_n 1) rfl rfl
theorem sX4_empty_32 {x : Int32} : Go kX4_empty 32 [a0, a1, a2] [.int x] bc bs hp Q ↔ Q (.inl (some (.int x))) hp := Go_ret (i := .ireturn) rfl rfl
theorem sX4_copy_0 {x : Nat} : Go kX4_copy 0 [a0, (.ref x)] st bc bs hp Q ↔ Go kX4_copy 1 [a0, (.ref x)] (.ref x :: st) bc bs hp Q := Go_next (i := .aload_n 1) rfl rfl
theorem sX4_copy_1 {x : Nat} : Go kX4_copy 1 [a0, a1] (.ref x :: st) bc bs hp Q ↔ RdF hp x 4 0 (fun v => Go kX4_copy 4 [a0, a1] (v :: st) bc bs hp Q) := Go_getf rfl rfl
theorem sX4_copy_4 : Go kX4_copy 4 [a0, a1] st bc bs hp Q ↔ Go kX4_copy 5 [a0, a1] (.int 0 :: st) bc bs hp Q := Go_next (i := .iconst 0) rfl rfl
theorem sX4_copy_5 {x : Nat} : Go kX4_copy 5 [(.ref x), a1] st bc bs hp Q ↔ Go kX4_copy 6 [(.ref x), a1] (.ref x :: st) bc bs hp Q := Go_next (i := .aload_n 0) rfl rfl
theorem sX4_copy_6 {x : Nat} : Go kX4_copy 6 [a0, a1] (.ref x :: st) bc bs hp Q ↔ RdF hp x 4 0 (fun v => Go kX4_copy 9 [a0, a1] (v :: st) bc bs hp Q) := Go_getf rfl rfl
theorem sX4_copy_9 : Go kX4_copy 9 [a0, a1] st bc bs hp Q ↔ Go kX4_copy 10 [a0, a1] (.int 0 :: st) bc bs hp Q := Go_next (i := .iconst 0) rfl rfl
theorem sX4_copy_10 : Go kX4_copy 10 [a0, a1] st bc bs hp Q ↔ Go kX4_copy 12 [a0, a1] (.int 48 :: st) bc bs hp Q := Go_next (i := .bipush 48) rfl rfl
theorem sX4_copy_12 {a b : Nat} {x y z : Int32} : Go kX4_copy 12 [a0, a1] (.int z :: .int y :: .ref b :: .int x :: .ref a :: st) bc bs hp Q ↔ nsum st ≤ 8 ∧ Cpy hp a b x y z (fun hp => Go kX4_copy 15 [a0, a1] st bc bs hp Q) := Go_cpy rfl rfl
theorem sX4_copy_15 {x : Nat} : Go kX4_copy 15 [(.ref x), a1] st bc bs hp Q ↔ Go kX4_copy 16 [(.ref x), a1] (.ref x :: st) bc bs hp Q := Go_next (i := .aload_n 0) rfl rfl
theorem sX4_copy_16 {x : Nat} : Go kX4_copy 16 [a0, (.ref x)] st bc bs hp Q ↔ Go kX4_copy 17 [a0, (.ref x)] (.ref x :: st) bc bs hp Q := Go_next (i := .aload_n 1) rfl rfl
theorem sX4_copy_17 {x : Nat} : Go kX4_copy 17 [a0, a1] (.ref x :: st) bc bs hp Q ↔ RdF hp x 4 1 (fun v => Go kX4_copy 20 [a0, a1] (v :: st) bc bs hp Q) := Go_getf rfl rfl
theorem sX4_copy_20 {x : Nat} {y : Int32} : Go kX4_copy 20 [a0, a1] (.int y :: .ref x :: st) bc bs hp Q ↔ WrF hp x 4 1 (.int y) (fun hp => Go kX4_copy 23 [a0, a1] st bc bs hp Q) := Go_puti rfl rfl (putOK_of rfl rfl rfl)
theorem sX4_copy_23 : Go kX4_copy 23 [a0, a1] [] bc bs hp Q ↔ Q (.inl none) hp := Go_ret (i := .return_) rfl rfl
theorem sX5_init_0 {x : Nat} : Go kX5_init 0 [(.ref x)] st bc bs hp Q ↔ Go kX5_init 1 [(.ref x)] (.ref x :: st) bc bs hp Q := Go_next (i := .aload_n 0) rfl rfl
theorem sX5_init_1 {x : Nat} : Go kX5_init 1 [a0] (.ref x :: st) bc bs hp Q ↔ nsum st ≤ 8 ∧ Go kX5_init 4 [a0] st bc bs hp Q := Go_on (i := .invokespecial 3) rfl rfl
theorem sX5_init_4 {x : Nat} : Go kX5_init 4 [(.ref x)] st bc bs hp Q ↔ Go kX5_init 5 [(.ref x)] (.ref x :: st) bc bs hp Q := Go_next (i := .aload_n 0) rfl rfl
theorem sX5_init_5 : Go kX5_init 5 [a0] st bc bs hp Q ↔ Go kX5_init 7 [a0] (.int 12 :: st) bc bs hp Q := Go_next (i := .bipush 12) rfl rfl
theorem sX5_init_7 : Go kX5_init 7 [a0] (.int 12 :: st) bc bs hp Q ↔ (1 ≤ bc ∧ 12 ≤ bs) ∧ Go kX5_init 9 [a0] (.ref (hp.1 + 1) :: st) (bc - 1) (bs - 12) (addHp hp (.inl (0, 12, .inl fun _ => 0))) Q := Go_newa (q := 12) (ty := .int) rfl rfl (by decide) (by decide) rfl rfl
theorem sX5_init_9 {x : Nat} {y : Nat} : Go kX5_init 9 [a0] (.ref y :: .ref x :: st) bc bs hp Q ↔ WrF hp x 5 0 (.ref y) (fun hp => Go kX5_init 12 [a0] st bc bs hp Q) := Go_puti rfl rfl (putOK_of rfl rfl rfl)
theorem sX5_init_12 : Go kX5_init 12 [a0] [] bc bs hp Q ↔ Q (.inl none) hp := Go_ret (i := .return_) rfl rfl
theorem sX5_placeOf_0 : Go kX5_placeOf 0 [a0, a1, a2] st bc bs hp Q ↔ Go kX5_placeOf 1 [a0, a1, a2] (.int 0 :: st) bc bs hp Q := Go_next (i := .iconst 0) rfl rfl
theorem sX5_placeOf_1 {x : Int32} (hj : a1.category = 1) : Go kX5_placeOf 1 [a0, a1, a2] (.int x :: st) bc bs hp Q ↔ Go kX5_placeOf 2 [a0, a1, (.int x)] st bc bs hp Q := Go_sto (i := .istore_n 2) (j := 2) (v := .int x) rfl rfl (Nat.le_of_ble_eq_true rfl) (decide_eq_true hj) rfl
theorem sX5_placeOf_2 {x : Int32} : Go kX5_placeOf 2 [a0, a1, (.int x)] st bc bs hp Q ↔ Go kX5_placeOf 3 [a0, a1, (.int x)] (.int x :: st) bc bs hp Q := Go_next (i := .iload_n 2) rfl rfl
theorem sX5_placeOf_3 {x : Nat} : Go kX5_placeOf 3 [(.ref x), a1, a2] st bc bs hp Q ↔ Go kX5_placeOf 4 [(.ref x), a1, a2] (.ref x :: st) bc bs hp Q := Go_next (i := .aload_n 0) rfl rfl
theorem sX5_placeOf_4 {x : Nat} : Go kX5_placeOf 4 [a0, a1, a2] (.ref x :: st) bc bs hp Q ↔ RdF hp x 5 1 (fun v => Go kX5_placeOf 7 [a0, a1, a2] (v :: st) bc bs hp Q) := Go_getf rfl rfl
theorem sX5_placeOf_7 {x y : Int32} : Go kX5_placeOf 7 [a0, a1, a2] (.int y :: .int x :: st) bc bs hp Q ↔ (y ≤ x → Go kX5_placeOf 28 [a0, a1, a2] st bc bs hp Q) ∧ (¬ y ≤ x → Go kX5_placeOf 10 [a0, a1, a2] st bc bs hp Q) := Go_ift (c := y ≤ x) (i := .if_icmp .ge 21) rfl rfl
theorem sX5_placeOf_10 {x : Nat} : Go kX5_placeOf 10 [(.ref x), a1, a2] st bc bs hp Q ↔ Go kX5_placeOf 11 [(.ref x), a1, a2] (.ref x :: st) bc bs hp Q := Go_next (i := .aload_n 0) rfl rfl
theorem sX5_placeOf_11 {x : Nat} : Go kX5_placeOf 11 [a0, a1, a2] (.ref x :: st) bc bs hp Q ↔ RdF hp x 5 0 (fun v => Go kX5_placeOf 14 [a0, a1, a2] (v :: st) bc bs hp Q) := Go_getf rfl rfl
theorem sX5_placeOf_14 {x : Int32} : Go kX5_placeOf 14 [a0, a1, (.int x)] st bc bs hp Q ↔ Go kX5_placeOf 15 [a0, a1, (.int x)] (.int x :: st) bc bs hp Q := Go_next (i := .iload_n 2) rfl rfl
theorem sX5_placeOf_15 {x : Nat} {i : Int32} : Go kX5_placeOf 15 [a0, a1, a2] (.int i :: .ref x :: st) bc bs hp Q ↔ RdA hp x 0 i (fun v => Go kX5_placeOf 16 [a0, a1, a2] (.int v :: st) bc bs hp Q) := Go_iald rfl
theorem sX5_placeOf_16 {x : Int32} : Go kX5_placeOf 16 [a0, (.int x), a2] st bc bs hp Q ↔ Go kX5_placeOf 17 [a0, (.int x), a2] (.int x :: st) bc bs hp Q := Go_next (i := .iload_n 1) rfl rfl
theorem sX5_placeOf_17 {x y : Int32} : Go kX5_placeOf 17 [a0, a1, a2] (.int y :: .int x :: st) bc bs hp Q ↔ (¬ x = y → Go kX5_placeOf 22 [a0, a1, a2] st bc bs hp Q) ∧ (x = y → Go kX5_placeOf 20 [a0, a1, a2] st bc bs hp Q) := Go_ifn (c := x = y) (i := .if_icmp .ne 5) rfl rfl
theorem sX5_placeOf_20 {x : Int32} : Go kX5_placeOf 20 [a0, a1, (.int x)] st bc bs hp Q ↔ Go kX5_placeOf 21 [a0, a1, (.int x)] (.int x :: st) bc bs hp Q := Go_next (i := .iload_n 2) rfl rfl
theorem sX5_placeOf_21 {x : Int32} : Go kX5_placeOf 21 [a0, a1, a2] [.int x] bc bs hp Q ↔ Q (.inl (some (.int x))) hp := Go_ret (i := .ireturn) rfl rfl
theorem sX5_placeOf_22 {x : Int32} (hj : a1.category = 1) : Go kX5_placeOf 22 [a0, a1, (.int x)] st bc bs hp Q ↔ Go kX5_placeOf 25 [a0, a1, (.int (x + 1))] st bc bs hp Q := Go_sto (i := .iinc 2 1) (j := 2) (v := .int (x + 1)) rfl rfl (Nat.le_of_ble_eq_true rfl) (decide_eq_true hj) rfl
theorem sX5_placeOf_25 : Go kX5_placeOf 25 [a0, a1, a2] st bc bs hp Q ↔ Go kX5_placeOf 2 [a0, a1, a2] st bc bs hp Q := Go_next (i := .goto (-23)) rfl rfl
theorem sX5_placeOf_28 : Go kX5_placeOf 28 [a0, a1, a2] st bc bs hp Q ↔ Go kX5_placeOf 29 [a0, a1, a2] (.int (-1) :: st) bc bs hp Q := Go_next (i := .iconst (-1)) rfl rfl
theorem sX5_placeOf_29 {x : Int32} : Go kX5_placeOf 29 [a0, a1, a2] [.int x] bc bs hp Q ↔ Q (.inl (some (.int x))) hp := Go_ret (i := .ireturn) rfl rfl
theorem sX5_join_0 {x : Nat} : Go kX5_join 0 [(.ref x), a1] st bc bs hp Q ↔ Go kX5_join 1 [(.ref x), a1] (.ref x :: st) bc bs hp Q := Go_next (i := .aload_n 0) rfl rfl
theorem sX5_join_1 {x : Nat} : Go kX5_join 1 [a0, a1] (.ref x :: st) bc bs hp Q ↔ RdF hp x 5 0 (fun v => Go kX5_join 4 [a0, a1] (v :: st) bc bs hp Q) := Go_getf rfl rfl
theorem sX5_join_4 {x : Nat} : Go kX5_join 4 [(.ref x), a1] st bc bs hp Q ↔ Go kX5_join 5 [(.ref x), a1] (.ref x :: st) bc bs hp Q := Go_next (i := .aload_n 0) rfl rfl
theorem sX5_join_5 {x : Nat} : Go kX5_join 5 [a0, a1] (.ref x :: st) bc bs hp Q ↔ RdF hp x 5 1 (fun v => Go kX5_join 8 [a0, a1] (v :: st) bc bs hp Q) := Go_getf rfl rfl
theorem sX5_join_8 {x : Int32} : Go kX5_join 8 [a0, (.int x)] st bc bs hp Q ↔ Go kX5_join 9 [a0, (.int x)] (.int x :: st) bc bs hp Q := Go_next (i := .iload_n 1) rfl rfl
theorem sX5_join_9 {x : Nat} {i : Int32} {y : Int32} : Go kX5_join 9 [a0, a1] (.int y :: .int i :: .ref x :: st) bc bs hp Q ↔ WrA hp x 0 i y (fun hp => Go kX5_join 10 [a0, a1] st bc bs hp Q) := Go_iast rfl
theorem sX5_join_10 {x : Nat} : Go kX5_join 10 [(.ref x), a1] st bc bs hp Q ↔ Go kX5_join 11 [(.ref x), a1] (.ref x :: st) bc bs hp Q := Go_next (i := .aload_n 0) rfl rfl
theorem sX5_join_11 {x : Nat} : Go kX5_join 11 [a0, a1] (.ref x :: st) bc bs hp Q ↔ Go kX5_join 12 [a0, a1] (.ref x :: .ref x :: st) bc bs hp Q := Go_next (i := .dup) rfl rfl
theorem sX5_join_12 {x : Nat} : Go kX5_join 12 [a0, a1] (.ref x :: st) bc bs hp Q ↔ RdF hp x 5 1 (fun v => Go kX5_join 15 [a0, a1] (v :: st) bc bs hp Q) := Go_getf rfl rfl
theorem sX5_join_15 : Go kX5_join 15 [a0, a1] st bc bs hp Q ↔ Go kX5_join 16 [a0, a1] (.int 1 :: st) bc bs hp Q := Go_next (i := .iconst 1) rfl rfl
theorem sX5_join_16 {x y : Int32} : Go kX5_join 16 [a0, a1] (.int y :: .int x :: st) bc bs hp Q ↔ Go kX5_join 17 [a0, a1] (.int (x + y) :: st) bc bs hp Q := Go_next (i := .iadd) rfl rfl
theorem sX5_join_17 {x : Nat} {y : Int32} : Go kX5_join 17 [a0, a1] (.int y :: .ref x :: st) bc bs hp Q ↔ WrF hp x 5 1 (.int y) (fun hp => Go kX5_join 20 [a0, a1] st bc bs hp Q) := Go_puti rfl rfl (putOK_of rfl rfl rfl)
theorem sX5_join_20 {x : Nat} : Go kX5_join 20 [(.ref x), a1] st bc bs hp Q ↔ Go kX5_join 21 [(.ref x), a1] (.ref x :: st) bc bs hp Q := Go_next (i := .aload_n 0) rfl rfl
theorem sX5_join_21 {x : Nat} : Go kX5_join 21 [a0, a1] (.ref x :: st) bc bs hp Q ↔ RdF hp x 5 1 (fun v => Go kX5_join 24 [a0, a1] (v :: st) bc bs hp Q) := Go_getf rfl rfl
theorem sX5_join_24 {x : Int32} : Go kX5_join 24 [a0, a1] [.int x] bc bs hp Q ↔ Q (.inl (some (.int x))) hp := Go_ret (i := .ireturn) rfl rfl
theorem sX6_init_0 {x : Nat} : Go kX6_init 0 [(.ref x)] st bc bs hp Q ↔ Go kX6_init 1 [(.ref x)] (.ref x :: st) bc bs hp Q := Go_next (i := .aload_n 0) rfl rfl
theorem sX6_init_1 {x : Nat} : Go kX6_init 1 [a0] (.ref x :: st) bc bs hp Q ↔ nsum st ≤ 8 ∧ Go kX6_init 4 [a0] st bc bs hp Q := Go_on (i := .invokespecial 3) rfl rfl
theorem sX6_init_4 {x : Nat} : Go kX6_init 4 [(.ref x)] st bc bs hp Q ↔ Go kX6_init 5 [(.ref x)] (.ref x :: st) bc bs hp Q := Go_next (i := .aload_n 0) rfl rfl
theorem sX6_init_5 : Go kX6_init 5 [a0] st bc bs hp Q ↔ Go kX6_init 7 [a0] (.int 8 :: st) bc bs hp Q := Go_next (i := .bipush 8) rfl rfl
theorem sX6_init_7 : Go kX6_init 7 [a0] (.int 8 :: st) bc bs hp Q ↔ (1 ≤ bc ∧ 8 ≤ bs) ∧ Go kX6_init 9 [a0] (.ref (hp.1 + 1) :: st) (bc - 1) (bs - 8) (addHp hp (.inl (0, 8, .inl fun _ => 0))) Q := Go_newa (q := 8) (ty := .int) rfl rfl (by decide) (by decide) rfl rfl
theorem sX6_init_9 {x : Nat} {y : Nat} : Go kX6_init 9 [a0] (.ref y :: .ref x :: st) bc bs hp Q ↔ WrF hp x 6 0 (.ref y) (fun hp => Go kX6_init 12 [a0] st bc bs hp Q) := Go_puti rfl rfl (putOK_of rfl rfl rfl)
theorem sX6_init_12 {x : Nat} : Go kX6_init 12 [(.ref x)] st bc bs hp Q ↔ Go kX6_init 13 [(.ref x)] (.ref x :: st) bc bs hp Q := Go_next (i := .aload_n 0) rfl rfl
theorem sX6_init_13 : Go kX6_init 13 [a0] st bc bs hp Q ↔ Go kX6_init 15 [a0] (.int 8 :: st) bc bs hp Q := Go_next (i := .bipush 8) rfl rfl
theorem sX6_init_15 : Go kX6_init 15 [a0] (.int 8 :: st) bc bs hp Q ↔ (1 ≤ bc ∧ 8 ≤ bs) ∧ Go kX6_init 17 [a0] (.ref (hp.1 + 1) :: st) (bc - 1) (bs - 8) (addHp hp (.inl (0, 8, .inl fun _ => 0))) Q := Go_newa (q := 8) (ty := .int) rfl rfl (by decide) (by decide) rfl rfl
theorem sX6_init_17 {x : Nat} {y : Nat} : Go kX6_init 17 [a0] (.ref y :: .ref x :: st) bc bs hp Q ↔ WrF hp x 6 1 (.ref y) (fun hp => Go kX6_init 20 [a0] st bc bs hp Q) := Go_puti rfl rfl (putOK_of rfl rfl rfl)
theorem sX6_init_20 : Go kX6_init 20 [a0] [] bc bs hp Q ↔ Q (.inl none) hp := Go_ret (i := .return_) rfl rfl
theorem sX6_mix_0 {x : Nat} : Go kX6_mix 0 [(.ref x), a1, a2] st bc bs hp Q ↔ Go kX6_mix 1 [(.ref x), a1, a2] (.ref x :: st) bc bs hp Q := Go_next (i := .aload_n 0) rfl rfl
theorem sX6_mix_1 {x : Nat} : Go kX6_mix 1 [a0, a1, a2] (.ref x :: st) bc bs hp Q ↔ RdF hp x 6 0 (fun v => Go kX6_mix 4 [a0, a1, a2] (v :: st) bc bs hp Q) := Go_getf rfl rfl
theorem sX6_mix_4 {x : Nat} : Go kX6_mix 4 [(.ref x), a1, a2] st bc bs hp Q ↔ Go kX6_mix 5 [(.ref x), a1, a2] (.ref x :: st) bc bs hp Q := Go_next (i := .aload_n 0) rfl rfl
theorem sX6_mix_5 {x : Nat} : Go kX6_mix 5 [a0, a1, a2] (.ref x :: st) bc bs hp Q ↔ RdF hp x 6 2 (fun v => Go kX6_mix 8 [a0, a1, a2] (v :: st) bc bs hp Q) := Go_getf rfl rfl
theorem sX6_mix_8 {x : Int32} : Go kX6_mix 8 [a0, (.int x), a2] st bc bs hp Q ↔ Go kX6_mix 9 [a0, (.int x), a2] (.int x :: st) bc bs hp Q := Go_next (i := .iload_n 1) rfl rfl
theorem sX6_mix_9 {x : Nat} {i : Int32} {y : Int32} : Go kX6_mix 9 [a0, a1, a2] (.int y :: .int i :: .ref x :: st) bc bs hp Q ↔ WrA hp x 0 i y (fun hp => Go kX6_mix 10 [a0, a1, a2] st bc bs hp Q) := Go_iast rfl
theorem sX6_mix_10 {x : Nat} : Go kX6_mix 10 [(.ref x), a1, a2] st bc bs hp Q ↔ Go kX6_mix 11 [(.ref x), a1, a2] (.ref x :: st) bc bs hp Q := Go_next (i := .aload_n 0) rfl rfl
theorem sX6_mix_11 {x : Nat} : Go kX6_mix 11 [a0, a1, a2] (.ref x :: st) bc bs hp Q ↔ RdF hp x 6 1 (fun v => Go kX6_mix 14 [a0, a1, a2] (v :: st) bc bs hp Q) := Go_getf rfl rfl
theorem sX6_mix_14 {x : Nat} : Go kX6_mix 14 [(.ref x), a1, a2] st bc bs hp Q ↔ Go kX6_mix 15 [(.ref x), a1, a2] (.ref x :: st) bc bs hp Q := Go_next (i := .aload_n 0) rfl rfl
theorem sX6_mix_15 {x : Nat} : Go kX6_mix 15 [a0, a1, a2] (.ref x :: st) bc bs hp Q ↔ RdF hp x 6 2 (fun v => Go kX6_mix 18 [a0, a1, a2] (v :: st) bc bs hp Q) := Go_getf rfl rfl
theorem sX6_mix_18 {x : Int32} : Go kX6_mix 18 [a0, a1, (.int x)] st bc bs hp Q ↔ Go kX6_mix 19 [a0, a1, (.int x)] (.int x :: st) bc bs hp Q := Go_next (i := .iload_n 2) rfl rfl
theorem sX6_mix_19 {x : Nat} {i : Int32} {y : Int32} : Go kX6_mix 19 [a0, a1, a2] (.int y :: .int i :: .ref x :: st) bc bs hp Q ↔ WrA hp x 0 i y (fun hp => Go kX6_mix 20 [a0, a1, a2] st bc bs hp Q) := Go_iast rfl
theorem sX6_mix_20 {x : Nat} : Go kX6_mix 20 [(.ref x), a1, a2] st bc bs hp Q ↔ Go kX6_mix 21 [(.ref x), a1, a2] (.ref x :: st) bc bs hp Q := Go_next (i := .aload_n 0) rfl rfl
theorem sX6_mix_21 {x : Nat} : Go kX6_mix 21 [a0, a1, a2] (.ref x :: st) bc bs hp Q ↔ Go kX6_mix 22 [a0, a1, a2] (.ref x :: .ref x :: st) bc bs hp Q := Go_next (i := .dup) rfl rfl
theorem sX6_mix_22 {x : Nat} : Go kX6_mix 22 [a0, a1, a2] (.ref x :: st) bc bs hp Q ↔ RdF hp x 6 2 (fun v => Go kX6_mix 25 [a0, a1, a2] (v :: st) bc bs hp Q) := Go_getf rfl rfl
theorem sX6_mix_25 : Go kX6_mix 25 [a0, a1, a2] st bc bs hp Q ↔ Go kX6_mix 26 [a0, a1, a2] (.int 1 :: st) bc bs hp Q := Go_next (i := .iconst 1) rfl rfl
theorem sX6_mix_26 {x y : Int32} : Go kX6_mix 26 [a0, a1, a2] (.int y :: .int x :: st) bc bs hp Q ↔ Go kX6_mix 27 [a0, a1, a2] (.int (x + y) :: st) bc bs hp Q := Go_next (i := .iadd) rfl rfl
theorem sX6_mix_27 {x : Nat} {y : Int32} : Go kX6_mix 27 [a0, a1, a2] (.int y :: .ref x :: st) bc bs hp Q ↔ WrF hp x 6 2 (.int y) (fun hp => Go kX6_mix 30 [a0, a1, a2] st bc bs hp Q) := Go_puti rfl rfl (putOK_of rfl rfl rfl)
theorem sX6_mix_30 {x : Nat} : Go kX6_mix 30 [(.ref x), a1, a2] st bc bs hp Q ↔ Go kX6_mix 31 [(.ref x), a1, a2] (.ref x :: st) bc bs hp Q := Go_next (i := .aload_n 0) rfl rfl
theorem sX6_mix_31 {x : Nat} : Go kX6_mix 31 [a0, a1, a2] (.ref x :: st) bc bs hp Q ↔ RdF hp x 6 2 (fun v => Go kX6_mix 34 [a0, a1, a2] (v :: st) bc bs hp Q) := Go_getf rfl rfl
theorem sX6_mix_34 : Go kX6_mix 34 [a0, a1, a2] st bc bs hp Q ↔ Go kX6_mix 35 [a0, a1, a2] (.int 1 :: st) bc bs hp Q := Go_next (i := .iconst 1) rfl rfl
theorem sX6_mix_35 {x y : Int32} : Go kX6_mix 35 [a0, a1, a2] (.int y :: .int x :: st) bc bs hp Q ↔ Go kX6_mix 36 [a0, a1, a2] (.int (x - y) :: st) bc bs hp Q := Go_next (i := .isub) rfl rfl
theorem sX6_mix_36 {x : Int32} : Go kX6_mix 36 [a0, a1, a2] [.int x] bc bs hp Q ↔ Q (.inl (some (.int x))) hp := Go_ret (i := .ireturn) rfl rfl
theorem sX6_change_0 {x : Nat} : Go kX6_change 0 [(.ref x), a1, a2, a3] st bc bs hp Q ↔ Go kX6_change 1 [(.ref x), a1, a2, a3] (.ref x :: st) bc bs hp Q := Go_next (i := .aload_n 0) rfl rfl
theorem sX6_change_1 {x : Nat} : Go kX6_change 1 [a0, a1, a2, a3] (.ref x :: st) bc bs hp Q ↔ RdF hp x 6 1 (fun v => Go kX6_change 4 [a0, a1, a2, a3] (v :: st) bc bs hp Q) := Go_getf rfl rfl
theorem sX6_change_4 {x : Int32} : Go kX6_change 4 [a0, (.int x), a2, a3] st bc bs hp Q ↔ Go kX6_change 5 [a0, (.int x), a2, a3] (.int x :: st) bc bs hp Q := Go_next (i := .iload_n 1) rfl rfl
theorem sX6_change_5 {x : Nat} {i : Int32} : Go kX6_change 5 [a0, a1, a2, a3] (.int i :: .ref x :: st) bc bs hp Q ↔ RdA hp x 0 i (fun v => Go kX6_change 6 [a0, a1, a2, a3] (.int v :: st) bc bs hp Q) := Go_iald rfl
theorem sX6_change_6 {x : Int32} (hj : a2.category = 1) : Go kX6_change 6 [a0, a1, a2, a3] (.int x :: st) bc bs hp Q ↔ Go kX6_change 7 [a0, a1, a2, (.int x)] st bc bs hp Q := Go_sto (i := .istore_n 3) (j := 3) (v := .int x) rfl rfl (Nat.le_of_ble_eq_true rfl) (decide_eq_true hj) rfl
theorem sX6_change_7 {x : Nat} : Go kX6_change 7 [(.ref x), a1, a2, a3] st bc bs hp Q ↔ Go kX6_change 8 [(.ref x), a1, a2, a3] (.ref x :: st) bc bs hp Q := Go_next (i := .aload_n 0) rfl rfl
theorem sX6_change_8 {x : Nat} : Go kX6_change 8 [a0, a1, a2, a3] (.ref x :: st) bc bs hp Q ↔ RdF hp x 6 1 (fun v => Go kX6_change 11 [a0, a1, a2, a3] (v :: st) bc bs hp Q) := Go_getf rfl rfl
theorem sX6_change_11 {x : Int32} : Go kX6_change 11 [a0, (.int x), a2, a3] st bc bs hp Q ↔ Go kX6_change 12 [a0, (.int x), a2, a3] (.int x :: st) bc bs hp Q := Go_next (i := .iload_n 1) rfl rfl
theorem sX6_change_12 {x : Int32} : Go kX6_change 12 [a0, a1, (.int x), a3] st bc bs hp Q ↔ Go kX6_change 13 [a0, a1, (.int x), a3] (.int x :: st) bc bs hp Q := Go_next (i := .iload_n 2) rfl rfl
theorem sX6_change_13 {x : Nat} {i : Int32} {y : Int32} : Go kX6_change 13 [a0, a1, a2, a3] (.int y :: .int i :: .ref x :: st) bc bs hp Q ↔ WrA hp x 0 i y (fun hp => Go kX6_change 14 [a0, a1, a2, a3] st bc bs hp Q) := Go_iast rfl
theorem sX6_change_14 {x : Int32} : Go kX6_change 14 [a0, a1, a2, (.int x)] st bc bs hp Q ↔ Go kX6_change 15 [a0, a1, a2, (.int x)] (.int x :: st) bc bs hp Q := Go_next (i := .iload_n 3) rfl rfl
theorem sX6_change_15 {x : Int32} : Go kX6_change 15 [a0, a1, a2, a3] [.int x] bc bs hp Q ↔ Q (.inl (some (.int x))) hp := Go_ret (i := .ireturn) rfl rfl
theorem sX6_numberOf_0 {x : Int32} : Go kX6_numberOf 0 [a0, (.int x)] st bc bs hp Q ↔ Go kX6_numberOf 1 [a0, (.int x)] (.int x :: st) bc bs hp Q := Go_next (i := .iload_n 1) rfl rfl
theorem sX6_numberOf_1 : Go kX6_numberOf 1 [a0, a1] st bc bs hp Q ↔ Go kX6_numberOf 4 [a0, a1] (.int 256 :: st) bc bs hp Q := Go_next (i := .sipush 256) rfl rfl
theorem sX6_numberOf_4 {x y : Int32} : Go kX6_numberOf 4 [a0, a1] (.int y :: .int x :: st) bc bs hp Q ↔ (y ≤ x → Go kX6_numberOf 11 [a0, a1] st bc bs hp Q) ∧ (¬ y ≤ x → Go kX6_numberOf 7 [a0, a1] st bc bs hp Q) := Go_ift (c := y ≤ x) (i := .if_icmp .ge 7) rfl rfl
theorem sX6_numberOf_7 {x : Int32} : Go kX6_numberOf 7 [a0, (.int x)] st bc bs hp Q ↔ Go kX6_numberOf 8 [a0, (.int x)] (.int x :: st) bc bs hp Q := Go_next (i := .iload_n 1) rfl rfl
theorem sX6_numberOf_8 : Go kX6_numberOf 8 [a0, a1] st bc bs hp Q ↔ Go kX6_numberOf 21 [a0, a1] st bc bs hp Q := Go_next (i := .goto 13) rfl rfl
theorem sX6_numberOf_11 {x : Nat} : Go kX6_numberOf 11 [(.ref x), a1] st bc bs hp Q ↔ Go kX6_numberOf 12 [(.ref x), a1] (.ref x :: st) bc bs hp Q := Go_next (i := .aload_n 0) rfl rfl
theorem sX6_numberOf_12 {x : Nat} : Go kX6_numberOf 12 [a0, a1] (.ref x :: st) bc bs hp Q ↔ RdF hp x 6 1 (fun v => Go kX6_numberOf 15 [a0, a1] (v :: st) bc bs hp Q) := Go_getf rfl rfl
theorem sX6_numberOf_15 {x : Int32} : Go kX6_numberOf 15 [a0, (.int x)] st bc bs hp Q ↔ Go kX6_numberOf 16 [a0, (.int x)] (.int x :: st) bc bs hp Q := Go_next (i := .iload_n 1) rfl rfl
theorem sX6_numberOf_16 : Go kX6_numberOf 16 [a0, a1] st bc bs hp Q ↔ Go kX6_numberOf 19 [a0, a1] (.int 256 :: st) bc bs hp Q := Go_next (i := .sipush 256) rfl rfl
theorem sX6_numberOf_19 {x y : Int32} : Go kX6_numberOf 19 [a0, a1] (.int y :: .int x :: st) bc bs hp Q ↔ Go kX6_numberOf 20 [a0, a1] (.int (x - y) :: st) bc bs hp Q := Go_next (i := .isub) rfl rfl
theorem sX6_numberOf_20 {x : Nat} {i : Int32} : Go kX6_numberOf 20 [a0, a1] (.int i :: .ref x :: st) bc bs hp Q ↔ RdA hp x 0 i (fun v => Go kX6_numberOf 21 [a0, a1] (.int v :: st) bc bs hp Q) := Go_iald rfl
theorem sX6_numberOf_21 {x : Int32} : Go kX6_numberOf 21 [a0, a1] [.int x] bc bs hp Q ↔ Q (.inl (some (.int x))) hp := Go_ret (i := .ireturn) rfl rfl
theorem sJxf58ca_isNaN_12338_0 {x : UInt32} : Go kJxf58ca_isNaN_12338 0 [(.float x)] st bc bs hp Q ↔ Go kJxf58ca_isNaN_12338 1 [(.float x)] (.float x :: st) bc bs hp Q := Go_next (i := .fload_n 0) rfl rfl
theorem sJxf58ca_isNaN_12338_1 {x : UInt32} : Go kJxf58ca_isNaN_12338 1 [(.float x)] st bc bs hp Q ↔ Go kJxf58ca_isNaN_12338 2 [(.float x)] (.float x :: st) bc bs hp Q := Go_next (i := .fload_n 0) rfl rfl
theorem sJxf58ca_isNaN_12338_2 {x y : UInt32} : Go kJxf58ca_isNaN_12338 2 [a0] (.float y :: .float x :: st) bc bs hp Q ↔ Go kJxf58ca_isNaN_12338 3 [a0] (.int (Op.cmpValue (FP.fcmp x y) .l) :: st) bc bs hp Q := Go_next (i := .fcmp .l) rfl rfl
theorem sJxf58ca_isNaN_12338_3 {x : Int32} : Go kJxf58ca_isNaN_12338 3 [a0] (.int x :: st) bc bs hp Q ↔ (x = 0 → Go kJxf58ca_isNaN_12338 10 [a0] st bc bs hp Q) ∧ (¬ x = 0 → Go kJxf58ca_isNaN_12338 6 [a0] st bc bs hp Q) := Go_ift (c := x = 0) (i := .ifCond .eq 7) rfl rfl
theorem sJxf58ca_isNaN_12338_6 : Go kJxf58ca_isNaN_12338 6 [a0] st bc bs hp Q ↔ Go kJxf58ca_isNaN_12338 7 [a0] (.int 1 :: st) bc bs hp Q := Go_next (i := .iconst 1) rfl rfl
theorem sJxf58ca_isNaN_12338_7 : Go kJxf58ca_isNaN_12338 7 [a0] st bc bs hp Q ↔ Go kJxf58ca_isNaN_12338 11 [a0] st bc bs hp Q := Go_next (i := .goto 4) rfl rfl
theorem sJxf58ca_isNaN_12338_10 : Go kJxf58ca_isNaN_12338 10 [a0] st bc bs hp Q ↔ Go kJxf58ca_isNaN_12338 11 [a0] (.int 0 :: st) bc bs hp Q := Go_next (i := .iconst 0) rfl rfl
theorem sJxf58ca_isNaN_12338_11 {x : Int32} : Go kJxf58ca_isNaN_12338 11 [a0] [.int x] bc bs hp Q ↔ outI kJxf58ca_isNaN_12338 x = true ∧ Q (.inl (some (.int x))) hp := Go_retIf (i := .ireturn) rfl rfl
theorem sJxf58ca_floatToIntBits_5c35a_0 {x : UInt32} : Go kJxf58ca_floatToIntBits_5c35a 0 [(.float x)] st bc bs hp Q ↔ Go kJxf58ca_floatToIntBits_5c35a 1 [(.float x)] (.float x :: st) bc bs hp Q := Go_next (i := .fload_n 0) rfl rfl
theorem sJxf58ca_floatToIntBits_5c35a_1 {p0 : UInt32} : Go kJxf58ca_floatToIntBits_5c35a 1 [a0] (.float p0 :: st) bc bs hp Q ↔ nsum st ≤ 8 ∧ Call kJxf58ca_isNaN_12338 [.float p0] hp (Aft kJxf58ca_floatToIntBits_5c35a 4 [a0] st bc bs Q) := Go_inv0 (i := .invokestatic 59) rfl rfl rfl rfl rfl rfl
theorem sJxf58ca_floatToIntBits_5c35a_4 {x : Int32} : Go kJxf58ca_floatToIntBits_5c35a 4 [a0] (.int x :: st) bc bs hp Q ↔ (¬ x = 0 → Go kJxf58ca_floatToIntBits_5c35a 12 [a0] st bc bs hp Q) ∧ (x = 0 → Go kJxf58ca_floatToIntBits_5c35a 7 [a0] st bc bs hp Q) := Go_ifn (c := x = 0) (i := .ifCond .ne 8) rfl rfl
theorem sJxf58ca_floatToIntBits_5c35a_7 {x : UInt32} : Go kJxf58ca_floatToIntBits_5c35a 7 [(.float x)] st bc bs hp Q ↔ Go kJxf58ca_floatToIntBits_5c35a 8 [(.float x)] (.float x :: st) bc bs hp Q := Go_next (i := .fload_n 0) rfl rfl
theorem sJxf58ca_floatToIntBits_5c35a_8 {x : UInt32} : Go kJxf58ca_floatToIntBits_5c35a 8 [a0] (.float x :: st) bc bs hp Q ↔ nsum st ≤ 8 ∧ Go kJxf58ca_floatToIntBits_5c35a 11 [a0] (.int x.toInt32 :: st) bc bs hp Q := Go_on (i := .invokestatic 74) rfl rfl
theorem sJxf58ca_floatToIntBits_5c35a_11 {x : Int32} : Go kJxf58ca_floatToIntBits_5c35a 11 [a0] [.int x] bc bs hp Q ↔ Q (.inl (some (.int x))) hp := Go_ret (i := .ireturn) rfl rfl
theorem sJxf58ca_floatToIntBits_5c35a_12 : Go kJxf58ca_floatToIntBits_5c35a 12 [a0] st bc bs hp Q ↔ Go kJxf58ca_floatToIntBits_5c35a 14 [a0] (.int 2143289344 :: st) bc bs hp Q := Go_next (i := .ldc 77) rfl rfl
theorem sJxf58ca_floatToIntBits_5c35a_14 {x : Int32} : Go kJxf58ca_floatToIntBits_5c35a 14 [a0] [.int x] bc bs hp Q ↔ Q (.inl (some (.int x))) hp := Go_ret (i := .ireturn) rfl rfl
end
end
section
/-! the small machine's cells and values on the real one: ad gives a cell's address, tA an array tag's class -/
def tr (ad : Nat → Nat) : Value → Value
  | .ref i => .ref (ad i)
  | v => v
def trE (ad : Nat → Nat) (tA : Nat → ClassId) : va_E → va_E
  | .inl (t, n, .inl f) => .inl (tA t, n, .inl f)
  | .inl (t, n, .inr (.inl f)) => .inl (tA t, n, .inr (.inl f))
  | .inl (t, n, .inr (.inr (.inl f))) => .inl (tA t, n, .inr (.inr (.inl f)))
  | .inl (t, n, .inr (.inr (.inr (.inl f)))) => .inl (tA t, n, .inr (.inr (.inr (.inl f))))
  | .inl (t, n, .inr (.inr (.inr (.inr f)))) => .inl (tA t, n, .inr (.inr (.inr (.inr (fun i => (f i).map ad)))))
  | .inr (ci, fs) => .inr (ci, fs.map (tr ad))
def wl (ad : Nat → Nat) (tA : Nat → ClassId) (hp : Hp) : va_W := (List.range hp.1).map fun i => (ad (i + 1), trE ad tA (hp.2 (i + 1)))
def okv (n : Nat) : Value → Prop
  | .ref i => i ≤ n
  | _ => True
def okE (n : Nat) : va_E → Prop
  | .inl (_, _, .inr (.inr (.inr (.inr f)))) => ∀ (i r : Nat), f i = some r → r ≤ n
  | .inl _ => True
  | .inr (_, fs) => ∀ v ∈ fs, okv n v
def okH (hp : Hp) : Prop := ∀ a, 1 ≤ a → a ≤ hp.1 → okE hp.1 (hp.2 a)
theorem tr_cat {ad : Nat → Nat} {v : Value} : (tr ad v).category = v.category := by cases v <;> rfl
theorem tr_sum {ad : Nat → Nat} {st : List Value} : ((st.map (tr ad)).map fun v => v.category).sum = nsum st := by
  induction st with
  | nil => rfl
  | cons v st ih =>
    simp only [List.map_cons, List.sum_cons, tr_cat, nsum] at ih ⊢
    rw [ih]
theorem wl_get {ad : Nat → Nat} {tA : Nat → ClassId} {hp : Hp} {a : Nat} (h1 : 1 ≤ a) (h2 : a ≤ hp.1) : (wl ad tA hp)[a - 1]? = some (ad a, trE ad tA (hp.2 a)) := by
  simp only [wl, List.getElem?_map, List.getElem?_range (show a - 1 < hp.1 by omega), Option.map_some, show a - 1 + 1 = a by omega]
theorem wl_len {ad : Nat → Nat} {tA : Nat → ClassId} {hp : Hp} : (wl ad tA hp).length = hp.1 := by simp [wl]
theorem wl_set {ad : Nat → Nat} {tA : Nat → ClassId} {hp : Hp} {a : Nat} {e : va_E} (h1 : 1 ≤ a) (_h2 : a ≤ hp.1) : wl ad tA (setHp hp a e) = (wl ad tA hp).set (a - 1) (ad a, trE ad tA e) := by
  apply List.ext_getElem?
  intro i
  rw [List.getElem?_set]
  by_cases hi : i < hp.1
  · have g1 : (wl ad tA (setHp hp a e))[i]? = some (ad (i + 1), trE ad tA ((setHp hp a e).2 (i + 1))) := by
      simp [wl, setHp, hi]
    have g2 : (wl ad tA hp)[i]? = some (ad (i + 1), trE ad tA (hp.2 (i + 1))) := by simp [wl, hi]
    rw [g1, g2]
    by_cases hia : a - 1 = i
    · have : i + 1 = a := by omega
      simp [hia, wl_len, hi, setHp, va_up, this]
    · have : ¬ i + 1 = a := by omega
      simp [hia, setHp, va_up, this]
  · have g1 : (wl ad tA (setHp hp a e))[i]? = none := by simp [wl, setHp]; omega
    have g2 : (wl ad tA hp)[i]? = none := by simp [wl]; omega
    rw [g1, g2]
    by_cases hia : a - 1 = i
    · simp [hia, wl_len, hi]
    · simp [hia]
theorem tr_eq {ad ad' : Nat → Nat} {n : Nat} (h : ∀ i, i ≤ n → ad' i = ad i) {v : Value} (hv : okv n v) : tr ad' v = tr ad v := by
  cases v with
  | ref i => exact congrArg Value.ref (h i hv)
  | _ => rfl
theorem trE_eq {ad ad' : Nat → Nat} {tA : Nat → ClassId} {n : Nat} (h : ∀ i, i ≤ n → ad' i = ad i) {e : va_E} (he : okE n e) : trE ad' tA e = trE ad tA e := by
  rcases e with ⟨t, N, f | f | f | f | f⟩ | ⟨ci, fs⟩
  · rfl
  · rfl
  · rfl
  · rfl
  · simp only [trE]
    have : (fun i => (f i).map ad') = fun i => (f i).map ad := by
      funext i
      cases hf : f i with
      | none => rfl
      | some r => simp [h r (he i r hf)]
    rw [this]
  · simp only [trE]
    have : fs.map (tr ad') = fs.map (tr ad) := List.map_congr_left fun v hv => tr_eq h (he v hv)
    rw [this]
theorem st_eq {ad ad' : Nat → Nat} {n : Nat} (h : ∀ i, i ≤ n → ad' i = ad i) {st : List Value} (hv : ∀ v ∈ st, okv n v) : st.map (tr ad') = st.map (tr ad) := List.map_congr_left fun v hx => tr_eq h (hv v hx)
theorem wl_add {ad : Nat → Nat} {tA : Nat → ClassId} {hp : Hp} {q : Nat} {e : va_E} (hok : okH hp) : wl (va_up ad (hp.1 + 1) q) tA (addHp hp e) = wl ad tA hp ++ [(q, trE (va_up ad (hp.1 + 1) q) tA e)] := by
  have hag : ∀ i, i ≤ hp.1 → va_up ad (hp.1 + 1) q i = ad i := fun i hi => by simp [va_up]; intro h; omega
  apply List.ext_getElem?
  intro i
  rw [List.getElem?_append, wl_len]
  by_cases hi : i < hp.1
  · rw [if_pos hi]
    have g2 : (wl ad tA hp)[i]? = some (ad (i + 1), trE ad tA (hp.2 (i + 1))) := by simp [wl, hi]
    rw [g2]
    have : ¬ i = hp.1 := by omega
    simp only [wl, addHp, List.getElem?_map, List.getElem?_range (show i < hp.1 + 1 by omega), Option.map_some, va_up, Nat.add_right_cancel_iff, if_neg this]
    rw [trE_eq hag (hok (i + 1) (by omega) (by omega))]
  · rw [if_neg hi]
    by_cases he : i = hp.1
    · subst he
      simp only [wl, addHp, List.getElem?_map, List.getElem?_range (Nat.lt_succ_self _), Option.map_some, Nat.sub_self, List.getElem?_cons_zero, va_up, if_true]
    · have g1 : (wl (va_up ad (hp.1 + 1) q) tA (addHp hp e))[i]? = none := by simp [wl, addHp]; omega
      rw [g1]
      symm
      rw [List.getElem?_eq_none_iff]
      simp; omega
theorem okv_mono {n m : Nat} (h : n ≤ m) {v : Value} (hv : okv n v) : okv m v := by
  cases v with
  | ref i => exact Nat.le_trans hv h
  | _ => exact hv
theorem okE_mono {n m : Nat} (h : n ≤ m) {e : va_E} (he : okE n e) : okE m e := by
  rcases e with ⟨t, N, f | f | f | f | f⟩ | ⟨ci, fs⟩
  · trivial
  · trivial
  · trivial
  · trivial
  · exact fun i r hr => Nat.le_trans (he i r hr) h
  · exact fun v hv => okv_mono h (he v hv)
theorem okH_set {hp : Hp} {a : Nat} {e : va_E} (h : okH hp) (he : okE hp.1 e) : okH (setHp hp a e) := by
  intro b h1 h2
  simp only [setHp, va_up]
  by_cases hb : b = a
  · rw [if_pos hb]; exact he
  · rw [if_neg hb]; exact h b h1 h2
theorem okH_add {hp : Hp} {e : va_E} (h : okH hp) (he : okE (hp.1 + 1) e) : okH (addHp hp e) := by
  intro b h1 h2
  simp only [addHp, va_up] at h2 ⊢
  by_cases hb : b = hp.1 + 1
  · rw [if_pos hb]; exact he
  · rw [if_neg hb]; exact okE_mono (Nat.le_succ _) (h b h1 (by omega))
/-! locals -/
def ascL (ad : Nat → Nat) (ls : List Value) : List (Nat × Value) := (List.range ls.length).filterMap fun (j : Nat) => match (ls[j]? : Option Value) with
  | some Value.null => none
  | some v => some (j, tr ad v)
  | none => none
def LR (ad : Nat → Nat) (nL : Nat) (ls : List Value) (lsr : Array Slot) : Prop := ls.length = nL ∧ lsr.size = nL ∧ lv_wf lsr ∧ ∀ (j : Nat) (v : Value), ls[j]? = some v → v ≠ .null → lsr[j]? = some (.val (tr ad v))
theorem mem_ascL {ad : Nat → Nat} {ls : List Value} {j : Nat} {v : Value} (h : ls[j]? = some v) (hv : v ≠ .null) : (j, tr ad v) ∈ ascL ad ls := by
  refine List.mem_filterMap.mpr ⟨j, List.mem_range.mpr (List.getElem?_eq_some_iff.mp h).1, ?_⟩
  rw [h]
  cases v <;> first | rfl | exact absurd rfl hv
theorem LR.has {ad : Nat → Nat} {nL : Nat} {ls : List Value} {lsr : Array Slot} (h : LR ad nL ls lsr) : lv_has lsr nL (ascL ad ls) := by
  refine ⟨h.2.1, h.2.2.1, fun q hq => ?_⟩
  obtain ⟨j, -, hj⟩ := List.mem_filterMap.mp hq
  cases hl : ls[j]? with
  | none => rw [hl] at hj; cases hj
  | some v =>
    rw [hl] at hj
    have hv : v ≠ .null := fun e => by rw [e] at hj; cases hj
    have : q = (j, tr ad v) := by
      cases v <;> first | exact (Option.some.inj hj).symm | exact absurd rfl hv
    rw [this]
    exact h.2.2.2 j v hl hv
theorem LR.at {ad : Nat → Nat} {nL : Nat} {ls : List Value} {lsr : Array Slot} (h : LR ad nL ls lsr) {j : Nat} {v : Value} (hj : ls[j]? = some v) (hv : v ≠ .null) : lsr[j]? = some (.val (tr ad v)) := h.2.2.2 j v hj hv
theorem LR.eq {ad ad' : Nat → Nat} {n nL : Nat} {ls : List Value} {lsr : Array Slot} (h : LR ad nL ls lsr) (hag : ∀ i, i ≤ n → ad' i = ad i) (hok : ∀ v ∈ ls, okv n v) : LR ad' nL ls lsr :=
  ⟨h.1, h.2.1, h.2.2.1, fun j v hj hv => by rw [tr_eq hag (hok v (List.mem_of_getElem? hj))]; exact h.2.2.2 j v hj hv⟩
theorem pok_cat {ls : List Value} {i j : Nat} {v : Value} (hp : pok ls j = true) (hi : i + 1 = j) (hv : ls[i]? = some v) : v.category = 1 := by
  subst hi
  have h := of_decide_eq_true hp
  rw [List.getD_eq_getElem?_getD, hv] at h
  exact h
theorem LR.st1 {ad : Nat → Nat} {nL : Nat} {ls : List Value} {lsr lsr' : Array Slot} (h : LR ad nL ls lsr) {j : Nat} {v w : Value} (hp : pok ls j = true) (hvw : v = .null ∨ w = tr ad v) (h' : lv_has lsr' nL ((j, w) :: (ascL ad ls).filter (fun q => !(q.1 == j) && !(q.1 + 1 == j && q.2.category == 2)))) : LR ad nL (ls.set j v) lsr' := by
  refine ⟨by rw [List.length_set]; exact h.1, h'.1, h'.2.1, fun i u hi hu => ?_⟩
  rw [List.getElem?_set] at hi
  by_cases hji : j = i
  · subst hji
    rw [if_pos rfl] at hi
    by_cases hl : j < ls.length
    · rw [if_pos hl] at hi
      cases hi
      rcases hvw with e | e
      · exact absurd e hu
      · rw [← e]; exact h'.2.2 (j, w) List.mem_cons_self
    · rw [if_neg hl] at hi; cases hi
  · rw [if_neg hji] at hi
    refine h'.2.2 (i, tr ad u) (List.mem_cons_of_mem _ (List.mem_filter.mpr ⟨mem_ascL hi hu, ?_⟩))
    simp only [Bool.and_eq_true, Bool.not_eq_true', beq_eq_false_iff_ne, ne_eq, Bool.and_eq_false_iff]
    refine ⟨fun e => hji e.symm, ?_⟩
    by_cases h1 : i + 1 = j
    · right
      rw [tr_cat, pok_cat hp h1 hi]; decide
    · exact Or.inl h1
theorem LR.st2 {ad : Nat → Nat} {nL : Nat} {ls : List Value} {lsr lsr' : Array Slot} (h : LR ad nL ls lsr) {j : Nat} {v : Value} (hp : pok ls j = true) (h' : lv_has lsr' nL ((j, tr ad v) :: (ascL ad ls).filter (fun q => !(q.1 == j) && (!(q.1 == j + 1) && !(q.1 + 1 == j && q.2.category == 2))))) : LR ad nL ((ls.set j v).set (j + 1) .null) lsr' := by
  refine ⟨by rw [List.length_set, List.length_set]; exact h.1, h'.1, h'.2.1, fun i u hi hu => ?_⟩
  rw [List.getElem?_set] at hi
  by_cases h2 : j + 1 = i
  · rw [if_pos h2] at hi
    split at hi
    · cases hi; exact absurd rfl hu
    · cases hi
  · rw [if_neg h2, List.getElem?_set] at hi
    by_cases hji : j = i
    · subst hji
      rw [if_pos rfl] at hi
      by_cases hl : j < ls.length
      · rw [if_pos hl] at hi
        cases hi
        exact h'.2.2 _ List.mem_cons_self
      · rw [if_neg hl] at hi; cases hi
    · rw [if_neg hji] at hi
      refine h'.2.2 (i, tr ad u) (List.mem_cons_of_mem _ (List.mem_filter.mpr ⟨mem_ascL hi hu, ?_⟩))
      simp only [Bool.and_eq_true, Bool.not_eq_true', beq_eq_false_iff_ne, ne_eq, Bool.and_eq_false_iff]
      refine ⟨fun e => hji e.symm, fun e => h2 e.symm, ?_⟩
      by_cases h1 : i + 1 = j
      · right
        rw [tr_cat, pok_cat hp h1 hi]; decide
      · exact Or.inl h1
theorem lv_args_mem : ∀ (vs : List Value) (i j : Nat) (v : Value), (∀ w ∈ vs, w.category = 1) → vs[j]? = some v → (i + j, v) ∈ lv_args i vs
  | [], i, j, v, _, h => by simp at h
  | w :: vs, i, j, v, hc, h => by
    have hw : ¬ w.category = 2 := by rw [hc w List.mem_cons_self]; decide
    rw [lv_args, if_neg hw]
    cases j with
    | zero => rw [List.getElem?_cons_zero] at h; cases h; exact List.mem_cons_self
    | succ j =>
      rw [List.getElem?_cons_succ] at h
      have := lv_args_mem vs (i + 1) j v (fun w hw => hc w (List.mem_cons_of_mem _ hw)) h
      rw [show i + (j + 1) = i + 1 + j by omega]
      exact List.mem_cons_of_mem _ this
theorem LR.ini {ad : Nat → Nat} {k : Nat} {as : List Value} {lsr : Array Slot} (hc : ∀ w ∈ as, w.category = 1) (hl : as.length ≤ mL k) (h : lv_has lsr (mL k) (lv_args 0 (as.map (tr ad)))) : LR ad (mL k) (iniL k as) lsr := by
  refine ⟨by simp [iniL]; omega, h.1, h.2.1, fun j v hj hv => ?_⟩
  rw [iniL, List.getElem?_append] at hj
  split at hj
  next hlt =>
    have := lv_args_mem (as.map (tr ad)) 0 j (tr ad v) (fun w hw => by
      obtain ⟨u, hu, rfl⟩ := List.mem_map.mp hw
      rw [tr_cat]; exact hc u hu) (by rw [List.getElem?_map, hj]; rfl)
    rw [Nat.zero_add] at this
    exact h.2.2 _ this
  next hlt =>
    rw [List.getElem?_replicate] at hj
    split at hj
    · cases hj; exact absurd rfl hv
    · cases hj
end
section
/-! the tables' words, by the small machine's own tables and by their places in tables_1 -/
def TW : List Cond := lw_tbl.filter goodWord
def spW : Cond → Bool
  | .declares _ => true
  | .castable _ _ => true
  | .methodLinkNest _ _ _ _ => true
  | _ => false
def TX : List Cond := lw_tbl.filter spW
theorem TW_in {w : Cond} (h : w ∈ tables_1) (g : goodWord w = true) : w ∈ TW := List.mem_filter.mpr ⟨List.mem_append_right _ h, g⟩
theorem TX_in {w : Cond} (h : w ∈ tables_1) (g : spW w = true) : w ∈ TX := List.mem_filter.mpr ⟨List.mem_append_right _ h, g⟩
/-- words by their places -/
def atP (ws : List Cond) (ps : List Nat) : Bool := decide (ps.length = ws.length) && (ws.zip ps).all fun q => decide (tables_1[q.2]? = some q.1) && goodWord q.1
theorem atP_in {ws : List Cond} {ps : List Nat} (h : atP ws ps = true) : ∀ w ∈ ws, w ∈ TW := by
  simp only [atP, Bool.and_eq_true, decide_eq_true_eq, List.all_eq_true] at h
  intro w hw
  obtain ⟨n, hn, he⟩ := List.getElem_of_mem hw
  have h1 : (ws.zip ps)[n]'(by rw [List.length_zip]; omega) = (w, ps[n]'(by omega)) := by rw [List.getElem_zip, he]
  have h2 := h.2 _ (List.getElem_mem (by rw [List.length_zip]; omega : n < (ws.zip ps).length))
  rw [h1] at h2
  exact TW_in (List.mem_of_getElem? h2.1) h2.2
theorem zip_in {α β : Type} {l : List α} {l' : List β} {q : α} (hl : l.length ≤ l'.length) (h : q ∈ l) : ∃ i, (q, i) ∈ l.zip l' := by
  obtain ⟨n, hn, he⟩ := List.getElem_of_mem h
  refine ⟨l'[n]'(by omega), ?_⟩
  have h1 : (l.zip l')[n]'(by rw [List.length_zip]; omega) = (q, l'[n]'(by omega)) := by rw [List.getElem_zip, he]
  rw [← h1]
  exact List.getElem_mem _
def ownN (o : Nat) : String := ownT.getD o ""
def mW (k : Nat) : Cond := match mH k with
  | [] => .code (mY k) (mB k) (mL k) (mR k)
  | r :: rs => .codeWith (mY k) (mB k) (mL k) (mR k) (r :: rs)
def fldI : List (List Nat) := [[110, 117, 119, 121, 113, 115, 123], [141, 146, 151, 152, 154, 155, 156, 157, 111, 67, 120, 143, 118, 149, 122, 124, 114, 116, 72], [210, 213, 217, 219, 221, 223, 212, 216, 88, 90, 70, 142, 144, 112, 229, 158, 227, 147, 150, 68, 225, 153, 188, 186], [191, 193, 185, 187, 189, 190, 192], [66, 69], [87, 89], [47, 49, 50], [253, 254, 211, 215, 214, 218, 51, 220, 48, 71, 222, 145, 228, 226, 224, 148, 194], [1070, 1071, 1072, 1073, 1074, 1075, 1076, 1077, 1078, 1079, 1080, 1081, 1082, 1083, 1084, 1085, 1086, 1087, 1088, 1089, 1090, 1091, 1092, 1093, 1094, 1095, 1096, 1097, 1098, 1099, 1100, 1101, 1102, 1063, 1064, 1068, 1103, 1067, 1069, 1065, 1066], [], []]
set_option maxRecDepth 100000 in
set_option maxHeartbeats 4000000 in
theorem fld_tab : ∀ o, o < 11 → (fldT.getD o []).length ≤ (fldI.getD o []).length ∧ ∀ q ∈ (fldT.getD o []).zip (fldI.getD o []), (q.1.2.1 < 9 ∧ q.1.2.2 < nF q.1.2.1) ∧ atP [Cond.fieldLink (ownN o) q.1.1 (tF q.1.2.1 q.1.2.2).1 (tF q.1.2.1 q.1.2.2).2.1 (tF q.1.2.1 q.1.2.2).2.2.1] [q.2] = true := by decide +kernel
def clsI : List (List Nat) := [[125, 127, 129, 131, 133, 135, 137, 103, 7], [159, 161, 163, 165, 167, 169, 171, 173, 175, 177, 96, 6], [230, 232, 234, 236, 238, 240, 242, 244, 246, 248, 250, 34, 2], [195, 197, 199, 201, 203, 205, 207, 180, 8], [73, 75, 61, 4], [91, 93, 82, 5], [52, 54, 56, 42, 3], [255, 257, 26, 1], [1104, 1106, 1108, 1110, 1112, 1114, 1116, 1118, 1120, 1122, 1124, 1126, 1128, 1130, 1132, 1134, 1136, 1138, 1140, 1142, 1144, 1146, 1148, 1150, 1152, 1154, 1156, 1158, 1160, 1162, 1164, 1166, 1168, 1170, 1172, 1174, 1176, 1178, 1180, 1182, 1184, 1058, 9]]
set_option maxRecDepth 100000 in
theorem cls_tab : ∀ ci, ci < 9 → atP (u_ws (rF ci) (tF ci) (nF ci) ++ [Cond.instantiable (rF ci) (nF ci), Cond.initialized (rF ci)]) (clsI.getD ci []) = true := by decide +kernel
theorem cls_ty : ∀ ci, ci < 9 → ∀ j, j < nF ci → parseFieldDescriptor (tF ci j).2.2.1 = some (yF ci j) := by decide +kernel
theorem cls_nm : ∀ ci, ci < 9 → ∀ a, a < nF ci → ∀ b, b < nF ci → a ≠ b → (tF ci a).2.1 ≠ (tF ci b).2.1 := by
  intro ci h
  rcases ci with _ | _ | _ | _ | _ | _ | _ | _ | _ | ci
  · exact nmX0
  · exact nmX1
  · exact nmX2
  · exact nmX3
  · exact nmX4
  · exact nmX5
  · exact nmX6
  · exact nmX7
  · exact nmX8
  · omega
theorem cls_row : ∀ ci, ci < 9 → vw9[ci]? = some (rF ci, tF ci, nF ci) := by
  intro ci h
  rcases ci with _ | _ | _ | _ | _ | _ | _ | _ | _ | ci
  all_goals first | rfl | omega
set_option maxRecDepth 100000 in
theorem mw_0 : tables_1[106]? = some (mW 0) := rfl
set_option maxRecDepth 100000 in
theorem mw_1 : tables_1[698]? = some (mW 1) := rfl
set_option maxRecDepth 100000 in
theorem mw_2 : tables_1[709]? = some (mW 2) := rfl
set_option maxRecDepth 100000 in
theorem mw_3 : tables_1[720]? = some (mW 3) := rfl
set_option maxRecDepth 100000 in
theorem mw_4 : tables_1[731]? = some (mW 4) := rfl
set_option maxRecDepth 100000 in
theorem mw_5 : tables_1[742]? = some (mW 5) := rfl
set_option maxRecDepth 100000 in
theorem mw_6 : tables_1[99]? = some (mW 6) := rfl
set_option maxRecDepth 100000 in
theorem mw_7 : tables_1[753]? = some (mW 7) := rfl
set_option maxRecDepth 100000 in
theorem mw_8 : tables_1[764]? = some (mW 8) := rfl
set_option maxRecDepth 100000 in
theorem mw_9 : tables_1[314]? = some (mW 9) := rfl
set_option maxRecDepth 100000 in
theorem mw_10 : tables_1[346]? = some (mW 10) := rfl
set_option maxRecDepth 100000 in
theorem mw_11 : tables_1[775]? = some (mW 11) := rfl
set_option maxRecDepth 100000 in
theorem mw_12 : tables_1[855]? = some (mW 12) := rfl
set_option maxRecDepth 100000 in
theorem mw_13 : tables_1[871]? = some (mW 13) := rfl
set_option maxRecDepth 100000 in
theorem mw_14 : tables_1[302]? = some (mW 14) := rfl
set_option maxRecDepth 100000 in
theorem mw_15 : tables_1[790]? = some (mW 15) := rfl
set_option maxRecDepth 100000 in
theorem mw_16 : tables_1[795]? = some (mW 16) := rfl
set_option maxRecDepth 100000 in
theorem mw_17 : tables_1[310]? = some (mW 17) := rfl
set_option maxRecDepth 100000 in
theorem mw_18 : tables_1[306]? = some (mW 18) := rfl
set_option maxRecDepth 100000 in
theorem mw_19 : tables_1[1020]? = some (mW 19) := rfl
set_option maxRecDepth 100000 in
theorem mw_20 : tables_1[819]? = some (mW 20) := rfl
set_option maxRecDepth 100000 in
theorem mw_21 : tables_1[1055]? = some (mW 21) := rfl
set_option maxRecDepth 100000 in
theorem mw_22 : tables_1[341]? = some (mW 22) := rfl
set_option maxRecDepth 100000 in
theorem mw_23 : tables_1[37]? = some (mW 23) := rfl
set_option maxRecDepth 100000 in
theorem mw_24 : tables_1[430]? = some (mW 24) := rfl
set_option maxRecDepth 100000 in
theorem mw_25 : tables_1[502]? = some (mW 25) := rfl
set_option maxRecDepth 100000 in
theorem mw_26 : tables_1[510]? = some (mW 26) := rfl
set_option maxRecDepth 100000 in
theorem mw_27 : tables_1[522]? = some (mW 27) := rfl
set_option maxRecDepth 100000 in
theorem mw_28 : tables_1[622]? = some (mW 28) := rfl
set_option maxRecDepth 100000 in
theorem mw_29 : tables_1[694]? = some (mW 29) := rfl
set_option maxRecDepth 100000 in
theorem mw_30 : tables_1[670]? = some (mW 30) := rfl
set_option maxRecDepth 100000 in
theorem mw_31 : tables_1[780]? = some (mW 31) := rfl
set_option maxRecDepth 100000 in
theorem mw_32 : tables_1[785]? = some (mW 32) := rfl
set_option maxRecDepth 100000 in
theorem mw_33 : tables_1[831]? = some (mW 33) := rfl
set_option maxRecDepth 100000 in
theorem mw_34 : tables_1[835]? = some (mW 34) := rfl
set_option maxRecDepth 100000 in
theorem mw_35 : tables_1[851]? = some (mW 35) := rfl
set_option maxRecDepth 100000 in
theorem mw_36 : tables_1[867]? = some (mW 36) := rfl
set_option maxRecDepth 100000 in
theorem mw_37 : tables_1[884]? = some (mW 37) := rfl
set_option maxRecDepth 100000 in
theorem mw_38 : tables_1[910]? = some (mW 38) := rfl
set_option maxRecDepth 100000 in
theorem mw_39 : tables_1[294]? = some (mW 39) := rfl
set_option maxRecDepth 100000 in
theorem mw_40 : tables_1[290]? = some (mW 40) := rfl
set_option maxRecDepth 100000 in
theorem mw_41 : tables_1[286]? = some (mW 41) := rfl
set_option maxRecDepth 100000 in
theorem mw_42 : tables_1[279]? = some (mW 42) := rfl
set_option maxRecDepth 100000 in
theorem mw_43 : tables_1[183]? = some (mW 43) := rfl
set_option maxRecDepth 100000 in
theorem mw_44 : tables_1[888]? = some (mW 44) := rfl
set_option maxRecDepth 100000 in
theorem mw_45 : tables_1[324]? = some (mW 45) := rfl
set_option maxRecDepth 100000 in
theorem mw_46 : tables_1[332]? = some (mW 46) := rfl
set_option maxRecDepth 100000 in
theorem mw_47 : tables_1[64]? = some (mW 47) := rfl
set_option maxRecDepth 100000 in
theorem mw_48 : tables_1[298]? = some (mW 48) := rfl
set_option maxRecDepth 100000 in
theorem mw_49 : tables_1[604]? = some (mW 49) := rfl
set_option maxRecDepth 100000 in
theorem mw_50 : tables_1[636]? = some (mW 50) := rfl
set_option maxRecDepth 100000 in
theorem mw_51 : tables_1[267]? = some (mW 51) := rfl
set_option maxRecDepth 100000 in
theorem mw_52 : tables_1[674]? = some (mW 52) := rfl
set_option maxRecDepth 100000 in
theorem mw_53 : tables_1[85]? = some (mW 53) := rfl
set_option maxRecDepth 100000 in
theorem mw_54 : tables_1[328]? = some (mW 54) := rfl
set_option maxRecDepth 100000 in
theorem mw_55 : tables_1[556]? = some (mW 55) := rfl
set_option maxRecDepth 100000 in
theorem mw_56 : tables_1[45]? = some (mW 56) := rfl
set_option maxRecDepth 100000 in
theorem mw_57 : tables_1[572]? = some (mW 57) := rfl
set_option maxRecDepth 100000 in
theorem mw_58 : tables_1[588]? = some (mW 58) := rfl
set_option maxRecDepth 100000 in
theorem mw_59 : tables_1[318]? = some (mW 59) := rfl
set_option maxRecDepth 100000 in
theorem mw_60 : tables_1[29]? = some (mW 60) := rfl
set_option maxRecDepth 100000 in
theorem mw_61 : tables_1[354]? = some (mW 61) := rfl
set_option maxRecDepth 100000 in
theorem mw_62 : tables_1[462]? = some (mW 62) := rfl
set_option maxRecDepth 100000 in
theorem mw_63 : tables_1[517]? = some (mW 63) := rfl
set_option maxRecDepth 100000 in
theorem mw_64 : tables_1[530]? = some (mW 64) := rfl
set_option maxRecDepth 100000 in
theorem mw_65 : tables_1[563]? = some (mW 65) := rfl
set_option maxRecDepth 100000 in
theorem mw_66 : tables_1[579]? = some (mW 66) := rfl
set_option maxRecDepth 100000 in
theorem mw_67 : tables_1[595]? = some (mW 67) := rfl
set_option maxRecDepth 100000 in
theorem mw_68 : tables_1[611]? = some (mW 68) := rfl
set_option maxRecDepth 100000 in
theorem mw_69 : tables_1[618]? = some (mW 69) := rfl
set_option maxRecDepth 100000 in
theorem mw_70 : tables_1[630]? = some (mW 70) := rfl
set_option maxRecDepth 100000 in
theorem mw_71 : tables_1[263]? = some (mW 71) := rfl
set_option maxRecDepth 100000 in
theorem mw_72 : tables_1[644]? = some (mW 72) := rfl
set_option maxRecDepth 100000 in
theorem mw_73 : tables_1[685]? = some (mW 73) := rfl
set_option maxRecDepth 100000 in
theorem mw_74 : tables_1[705]? = some (mW 74) := rfl
set_option maxRecDepth 100000 in
theorem mw_75 : tables_1[716]? = some (mW 75) := rfl
set_option maxRecDepth 100000 in
theorem mw_76 : tables_1[727]? = some (mW 76) := rfl
set_option maxRecDepth 100000 in
theorem mw_77 : tables_1[738]? = some (mW 77) := rfl
set_option maxRecDepth 100000 in
theorem mw_78 : tables_1[749]? = some (mW 78) := rfl
set_option maxRecDepth 100000 in
theorem mw_79 : tables_1[760]? = some (mW 79) := rfl
set_option maxRecDepth 100000 in
theorem mw_80 : tables_1[771]? = some (mW 80) := rfl
set_option maxRecDepth 100000 in
theorem mw_81 : tables_1[802]? = some (mW 81) := rfl
set_option maxRecDepth 100000 in
theorem mw_82 : tables_1[810]? = some (mW 82) := rfl
set_option maxRecDepth 100000 in
theorem mw_83 : tables_1[827]? = some (mW 83) := rfl
set_option maxRecDepth 100000 in
theorem mw_84 : tables_1[846]? = some (mW 84) := rfl
set_option maxRecDepth 100000 in
theorem mw_85 : tables_1[863]? = some (mW 85) := rfl
set_option maxRecDepth 100000 in
theorem mw_86 : tables_1[878]? = some (mW 86) := rfl
set_option maxRecDepth 100000 in
theorem mw_87 : tables_1[895]? = some (mW 87) := rfl
set_option maxRecDepth 100000 in
theorem mw_88 : tables_1[917]? = some (mW 88) := rfl
set_option maxRecDepth 100000 in
theorem mw_89 : tables_1[925]? = some (mW 89) := rfl
set_option maxRecDepth 100000 in
theorem mw_90 : tables_1[933]? = some (mW 90) := rfl
set_option maxRecDepth 100000 in
theorem mw_91 : tables_1[945]? = some (mW 91) := rfl
set_option maxRecDepth 100000 in
theorem mw_92 : tables_1[952]? = some (mW 92) := rfl
set_option maxRecDepth 100000 in
theorem mw_93 : tables_1[961]? = some (mW 93) := rfl
set_option maxRecDepth 100000 in
theorem mw_94 : tables_1[971]? = some (mW 94) := rfl
set_option maxRecDepth 100000 in
theorem mw_95 : tables_1[985]? = some (mW 95) := rfl
set_option maxRecDepth 100000 in
theorem mw_96 : tables_1[993]? = some (mW 96) := rfl
set_option maxRecDepth 100000 in
theorem mw_97 : tables_1[1002]? = some (mW 97) := rfl
set_option maxRecDepth 100000 in
theorem mw_98 : tables_1[1009]? = some (mW 98) := rfl
set_option maxRecDepth 100000 in
theorem mw_99 : tables_1[1016]? = some (mW 99) := rfl
set_option maxRecDepth 100000 in
theorem mw_100 : tables_1[271]? = some (mW 100) := rfl
set_option maxRecDepth 100000 in
theorem mw_101 : tables_1[275]? = some (mW 101) := rfl
set_option maxRecDepth 100000 in
theorem mw_102 : tables_1[1041]? = some (mW 102) := rfl
set_option maxRecDepth 100000 in
theorem mw_103 : tables_1[1051]? = some (mW 103) := rfl
set_option maxRecDepth 100000 in
theorem mw_104 : tables_1[337]? = some (mW 104) := rfl
set_option maxRecDepth 100000 in
theorem mw_105 : tables_1[906]? = some (mW 105) := rfl
set_option maxRecDepth 100000 in
theorem mw_106 : tables_1[466]? = some (mW 106) := rfl
set_option maxRecDepth 100000 in
theorem mw_107 : tables_1[567]? = some (mW 107) := rfl
set_option maxRecDepth 100000 in
theorem mw_108 : tables_1[599]? = some (mW 108) := rfl
set_option maxRecDepth 100000 in
theorem mw_109 : tables_1[534]? = some (mW 109) := rfl
set_option maxRecDepth 100000 in
theorem mw_110 : tables_1[583]? = some (mW 110) := rfl
set_option maxRecDepth 100000 in
theorem mw_111 : tables_1[899]? = some (mW 111) := rfl
set_option maxRecDepth 100000 in
theorem mw_112 : tables_1[648]? = some (mW 112) := rfl
set_option maxRecDepth 100000 in
theorem mw_113 : tables_1[689]? = some (mW 113) := rfl
set_option maxRecDepth 100000 in
theorem mw_114 : tables_1[814]? = some (mW 114) := rfl
set_option maxRecDepth 100000 in
theorem mw_115 : tables_1[975]? = some (mW 115) := rfl
set_option maxRecDepth 100000 in
theorem mw_116 : tables_1[482]? = some (mW 116) := rfl
set_option maxRecDepth 100000 in
theorem mw_117 : tables_1[282]? = some (mW 117) := rfl
set_option maxRecDepth 100000 in
theorem mw_118 : tables_1[838]? = some (mW 118) := rfl
set_option maxRecDepth 100000 in
theorem mw_119 : tables_1[936]? = some (mW 119) := rfl
set_option maxRecDepth 100000 in
theorem mw_120 : tables_1[1061]? = some (mW 120) := rfl
set_option maxRecDepth 100000 in
theorem mw_121 : tables_1[1191]? = some (mW 121) := rfl
set_option maxRecDepth 100000 in
theorem mw_122 : tables_1[1199]? = some (mW 122) := rfl
set_option maxRecDepth 100000 in
theorem mw_123 : tables_1[1210]? = some (mW 123) := rfl
set_option maxRecDepth 100000 in
theorem mw_124 : tables_1[1207]? = some (mW 124) := rfl
set_option maxRecDepth 100000 in
theorem mw_125 : tables_1[1272]? = some (mW 125) := rfl
set_option maxRecDepth 100000 in
theorem mw_126 : tables_1[1284]? = some (mW 126) := rfl
set_option maxRecDepth 100000 in
theorem mw_127 : tables_1[1336]? = some (mW 127) := rfl
set_option maxRecDepth 100000 in
theorem mw_128 : tables_1[1244]? = some (mW 128) := rfl
set_option maxRecDepth 100000 in
theorem mw_129 : tables_1[1264]? = some (mW 129) := rfl
set_option maxRecDepth 100000 in
theorem mw_130 : tables_1[1276]? = some (mW 130) := rfl
set_option maxRecDepth 100000 in
theorem mw_131 : tables_1[1324]? = some (mW 131) := rfl
set_option maxRecDepth 100000 in
theorem mw_132 : tables_1[1332]? = some (mW 132) := rfl
set_option maxRecDepth 100000 in
theorem mw_133 : tables_1[1328]? = some (mW 133) := rfl
set_option maxRecDepth 100000 in
theorem mw_134 : tables_1[1340]? = some (mW 134) := rfl
set_option maxRecDepth 100000 in
theorem mw_135 : tables_1[1222]? = some (mW 135) := rfl
set_option maxRecDepth 100000 in
theorem mw_136 : tables_1[1393]? = some (mW 136) := rfl
set_option maxRecDepth 100000 in
theorem mw_137 : tables_1[1389]? = some (mW 137) := rfl
set_option maxRecDepth 100000 in
theorem mw_138 : tables_1[1320]? = some (mW 138) := rfl
set_option maxRecDepth 100000 in
theorem mw_139 : tables_1[1316]? = some (mW 139) := rfl
set_option maxRecDepth 100000 in
theorem mw_140 : tables_1[1195]? = some (mW 140) := rfl
set_option maxRecDepth 100000 in
theorem mw_141 : tables_1[1203]? = some (mW 141) := rfl
set_option maxRecDepth 100000 in
theorem mw_142 : tables_1[1214]? = some (mW 142) := rfl
set_option maxRecDepth 100000 in
theorem mw_143 : tables_1[1218]? = some (mW 143) := rfl
set_option maxRecDepth 100000 in
theorem mw_144 : tables_1[1229]? = some (mW 144) := rfl
set_option maxRecDepth 100000 in
theorem mw_145 : tables_1[1232]? = some (mW 145) := rfl
set_option maxRecDepth 100000 in
theorem mw_146 : tables_1[1226]? = some (mW 146) := rfl
set_option maxRecDepth 100000 in
theorem mw_147 : tables_1[1236]? = some (mW 147) := rfl
set_option maxRecDepth 100000 in
theorem mw_148 : tables_1[1240]? = some (mW 148) := rfl
set_option maxRecDepth 100000 in
theorem mw_149 : tables_1[1248]? = some (mW 149) := rfl
set_option maxRecDepth 100000 in
theorem mw_150 : tables_1[1252]? = some (mW 150) := rfl
set_option maxRecDepth 100000 in
theorem mw_151 : tables_1[1256]? = some (mW 151) := rfl
set_option maxRecDepth 100000 in
theorem mw_152 : tables_1[1260]? = some (mW 152) := rfl
set_option maxRecDepth 100000 in
theorem mw_153 : tables_1[1268]? = some (mW 153) := rfl
set_option maxRecDepth 100000 in
theorem mw_154 : tables_1[1280]? = some (mW 154) := rfl
set_option maxRecDepth 100000 in
theorem mw_155 : tables_1[1288]? = some (mW 155) := rfl
set_option maxRecDepth 100000 in
theorem mw_156 : tables_1[1292]? = some (mW 156) := rfl
set_option maxRecDepth 100000 in
theorem mw_157 : tables_1[1296]? = some (mW 157) := rfl
set_option maxRecDepth 100000 in
theorem mw_158 : tables_1[1300]? = some (mW 158) := rfl
set_option maxRecDepth 100000 in
theorem mw_159 : tables_1[1304]? = some (mW 159) := rfl
set_option maxRecDepth 100000 in
theorem mw_160 : tables_1[1308]? = some (mW 160) := rfl
set_option maxRecDepth 100000 in
theorem mw_161 : tables_1[1312]? = some (mW 161) := rfl
set_option maxRecDepth 100000 in
theorem mw_162 : tables_1[1345]? = some (mW 162) := rfl
set_option maxRecDepth 100000 in
theorem mw_163 : tables_1[1349]? = some (mW 163) := rfl
set_option maxRecDepth 100000 in
theorem mw_164 : tables_1[1353]? = some (mW 164) := rfl
set_option maxRecDepth 100000 in
theorem mw_165 : tables_1[1357]? = some (mW 165) := rfl
set_option maxRecDepth 100000 in
theorem mw_166 : tables_1[1361]? = some (mW 166) := rfl
set_option maxRecDepth 100000 in
theorem mw_167 : tables_1[1365]? = some (mW 167) := rfl
set_option maxRecDepth 100000 in
theorem mw_168 : tables_1[1373]? = some (mW 168) := rfl
set_option maxRecDepth 100000 in
theorem mw_169 : tables_1[1369]? = some (mW 169) := rfl
set_option maxRecDepth 100000 in
theorem mw_170 : tables_1[1377]? = some (mW 170) := rfl
set_option maxRecDepth 100000 in
theorem mw_171 : tables_1[1385]? = some (mW 171) := rfl
set_option maxRecDepth 100000 in
theorem mw_172 : tables_1[1381]? = some (mW 172) := rfl
set_option maxRecDepth 100000 in
theorem mw_173 : tables_1[1398]? = some (mW 173) := rfl
set_option maxRecDepth 100000 in
theorem mw_174 : tables_1[1416]? = some (mW 174) := rfl
set_option maxRecDepth 100000 in
theorem mw_175 : tables_1[1412]? = some (mW 175) := rfl
set_option maxRecDepth 100000 in
theorem mw_176 : tables_1[1420]? = some (mW 176) := rfl
set_option maxRecDepth 100000 in
theorem mw_177 : tables_1[1424]? = some (mW 177) := rfl
set_option maxRecDepth 100000 in
theorem mw_178 : tables_1[1432]? = some (mW 178) := rfl
set_option maxRecDepth 100000 in
theorem mw_179 : tables_1[1428]? = some (mW 179) := rfl
set_option maxRecDepth 100000 in
theorem mw_180 : tables_1[1436]? = some (mW 180) := rfl
set_option maxRecDepth 100000 in
theorem mw_181 : tables_1[1440]? = some (mW 181) := rfl
set_option maxRecDepth 100000 in
theorem mw_182 : tables_1[1444]? = some (mW 182) := rfl
set_option maxRecDepth 100000 in
theorem mw_183 : tables_1[1448]? = some (mW 183) := rfl
set_option maxRecDepth 100000 in
theorem mw_184 : tables_1[1452]? = some (mW 184) := rfl
set_option maxRecDepth 100000 in
theorem mw_185 : tables_1[1456]? = some (mW 185) := rfl
set_option maxRecDepth 100000 in
theorem mw_186 : tables_1[1460]? = some (mW 186) := rfl
set_option maxRecDepth 100000 in
theorem mw_187 : tables_1[1464]? = some (mW 187) := rfl
set_option maxRecDepth 100000 in
theorem mw_188 : tables_1[1468]? = some (mW 188) := rfl
set_option maxRecDepth 100000 in
theorem mw_189 : tables_1[1472]? = some (mW 189) := rfl
set_option maxRecDepth 100000 in
theorem mw_190 : tables_1[1404]? = some (mW 190) := rfl
set_option maxRecDepth 100000 in
theorem mw_191 : tables_1[1401]? = some (mW 191) := rfl
set_option maxRecDepth 100000 in
theorem mw_192 : tables_1[349]? = some (mW 192) := rfl
set_option maxRecDepth 100000 in
theorem mw_193 : tables_1[433]? = some (mW 193) := rfl
set_option maxRecDepth 100000 in
theorem mw_194 : tables_1[513]? = some (mW 194) := rfl
set_option maxRecDepth 100000 in
theorem mw_195 : tables_1[525]? = some (mW 195) := rfl
set_option maxRecDepth 100000 in
theorem mw_196 : tables_1[559]? = some (mW 196) := rfl
set_option maxRecDepth 100000 in
theorem mw_197 : tables_1[575]? = some (mW 197) := rfl
set_option maxRecDepth 100000 in
theorem mw_198 : tables_1[591]? = some (mW 198) := rfl
set_option maxRecDepth 100000 in
theorem mw_199 : tables_1[607]? = some (mW 199) := rfl
set_option maxRecDepth 100000 in
theorem mw_200 : tables_1[614]? = some (mW 200) := rfl
set_option maxRecDepth 100000 in
theorem mw_201 : tables_1[626]? = some (mW 201) := rfl
set_option maxRecDepth 100000 in
theorem mw_202 : tables_1[639]? = some (mW 202) := rfl
set_option maxRecDepth 100000 in
theorem mw_203 : tables_1[681]? = some (mW 203) := rfl
set_option maxRecDepth 100000 in
theorem mw_204 : tables_1[701]? = some (mW 204) := rfl
set_option maxRecDepth 100000 in
theorem mw_205 : tables_1[712]? = some (mW 205) := rfl
set_option maxRecDepth 100000 in
theorem mw_206 : tables_1[723]? = some (mW 206) := rfl
set_option maxRecDepth 100000 in
theorem mw_207 : tables_1[734]? = some (mW 207) := rfl
set_option maxRecDepth 100000 in
theorem mw_208 : tables_1[745]? = some (mW 208) := rfl
set_option maxRecDepth 100000 in
theorem mw_209 : tables_1[756]? = some (mW 209) := rfl
set_option maxRecDepth 100000 in
theorem mw_210 : tables_1[767]? = some (mW 210) := rfl
set_option maxRecDepth 100000 in
theorem mw_211 : tables_1[798]? = some (mW 211) := rfl
set_option maxRecDepth 100000 in
theorem mw_212 : tables_1[806]? = some (mW 212) := rfl
set_option maxRecDepth 100000 in
theorem mw_213 : tables_1[823]? = some (mW 213) := rfl
set_option maxRecDepth 100000 in
theorem mw_214 : tables_1[842]? = some (mW 214) := rfl
set_option maxRecDepth 100000 in
theorem mw_215 : tables_1[859]? = some (mW 215) := rfl
set_option maxRecDepth 100000 in
theorem mw_216 : tables_1[874]? = some (mW 216) := rfl
set_option maxRecDepth 100000 in
theorem mw_217 : tables_1[891]? = some (mW 217) := rfl
set_option maxRecDepth 100000 in
theorem mw_218 : tables_1[913]? = some (mW 218) := rfl
set_option maxRecDepth 100000 in
theorem mw_219 : tables_1[921]? = some (mW 219) := rfl
set_option maxRecDepth 100000 in
theorem mw_220 : tables_1[929]? = some (mW 220) := rfl
set_option maxRecDepth 100000 in
theorem mw_221 : tables_1[941]? = some (mW 221) := rfl
set_option maxRecDepth 100000 in
theorem mw_222 : tables_1[948]? = some (mW 222) := rfl
set_option maxRecDepth 100000 in
theorem mw_223 : tables_1[957]? = some (mW 223) := rfl
set_option maxRecDepth 100000 in
theorem mw_224 : tables_1[967]? = some (mW 224) := rfl
set_option maxRecDepth 100000 in
theorem mw_225 : tables_1[981]? = some (mW 225) := rfl
set_option maxRecDepth 100000 in
theorem mw_226 : tables_1[989]? = some (mW 226) := rfl
set_option maxRecDepth 100000 in
theorem mw_227 : tables_1[998]? = some (mW 227) := rfl
set_option maxRecDepth 100000 in
theorem mw_228 : tables_1[1005]? = some (mW 228) := rfl
set_option maxRecDepth 100000 in
theorem mw_229 : tables_1[1012]? = some (mW 229) := rfl
set_option maxRecDepth 100000 in
theorem mw_230 : tables_1[1023]? = some (mW 230) := rfl
set_option maxRecDepth 100000 in
theorem mw_231 : tables_1[1047]? = some (mW 231) := rfl
def mwB0 : List (Nat × Nat) := [(0, 106), (1, 698), (2, 709), (3, 720), (4, 731), (5, 742), (6, 99), (7, 753), (8, 764), (9, 314), (10, 346), (11, 775), (12, 855), (13, 871), (14, 302), (15, 790), (16, 795), (17, 310), (18, 306), (19, 1020), (20, 819), (21, 1055), (22, 341), (23, 37), (24, 430), (25, 502), (26, 510), (27, 522), (28, 622), (29, 694), (30, 670), (31, 780), (32, 785), (33, 831), (34, 835), (35, 851), (36, 867), (37, 884), (38, 910), (39, 294)]
theorem mwB0_ok : ∀ q ∈ mwB0, tables_1[q.2]? = some (mW q.1) := List.forall_mem_cons.mpr ⟨mw_0, List.forall_mem_cons.mpr ⟨mw_1, List.forall_mem_cons.mpr ⟨mw_2, List.forall_mem_cons.mpr ⟨mw_3, List.forall_mem_cons.mpr ⟨mw_4, List.forall_mem_cons.mpr ⟨mw_5, List.forall_mem_cons.mpr ⟨mw_6, List.forall_mem_cons.mpr ⟨mw_7, List.forall_mem_cons.mpr ⟨mw_8, List.forall_mem_cons.mpr ⟨mw_9, List.forall_mem_cons.mpr ⟨mw_10, List.forall_mem_cons.mpr ⟨mw_11, List.forall_mem_cons.mpr ⟨mw_12, List.forall_mem_cons.mpr ⟨mw_13, List.forall_mem_cons.mpr ⟨mw_14, List.forall_mem_cons.mpr ⟨mw_15, List.forall_mem_cons.mpr ⟨mw_16, List.forall_mem_cons.mpr ⟨mw_17, List.forall_mem_cons.mpr ⟨mw_18, List.forall_mem_cons.mpr ⟨mw_19, List.forall_mem_cons.mpr ⟨mw_20, List.forall_mem_cons.mpr ⟨mw_21, List.forall_mem_cons.mpr ⟨mw_22, List.forall_mem_cons.mpr ⟨mw_23, List.forall_mem_cons.mpr ⟨mw_24, List.forall_mem_cons.mpr ⟨mw_25, List.forall_mem_cons.mpr ⟨mw_26, List.forall_mem_cons.mpr ⟨mw_27, List.forall_mem_cons.mpr ⟨mw_28, List.forall_mem_cons.mpr ⟨mw_29, List.forall_mem_cons.mpr ⟨mw_30, List.forall_mem_cons.mpr ⟨mw_31, List.forall_mem_cons.mpr ⟨mw_32, List.forall_mem_cons.mpr ⟨mw_33, List.forall_mem_cons.mpr ⟨mw_34, List.forall_mem_cons.mpr ⟨mw_35, List.forall_mem_cons.mpr ⟨mw_36, List.forall_mem_cons.mpr ⟨mw_37, List.forall_mem_cons.mpr ⟨mw_38, List.forall_mem_cons.mpr ⟨mw_39, fun _ h => absurd h List.not_mem_nil⟩⟩⟩⟩⟩⟩⟩⟩⟩⟩⟩⟩⟩⟩⟩⟩⟩⟩⟩⟩⟩⟩⟩⟩⟩⟩⟩⟩⟩⟩⟩⟩⟩⟩⟩⟩⟩⟩⟩⟩
def mwB1 : List (Nat × Nat) := [(40, 290), (41, 286), (42, 279), (43, 183), (44, 888), (45, 324), (46, 332), (47, 64), (48, 298), (49, 604), (50, 636), (51, 267), (52, 674), (53, 85), (54, 328), (55, 556), (56, 45), (57, 572), (58, 588), (59, 318), (60, 29), (61, 354), (62, 462), (63, 517), (64, 530), (65, 563), (66, 579), (67, 595), (68, 611), (69, 618), (70, 630), (71, 263), (72, 644), (73, 685), (74, 705), (75, 716), (76, 727), (77, 738), (78, 749), (79, 760)]
theorem mwB1_ok : ∀ q ∈ mwB1, tables_1[q.2]? = some (mW q.1) := List.forall_mem_cons.mpr ⟨mw_40, List.forall_mem_cons.mpr ⟨mw_41, List.forall_mem_cons.mpr ⟨mw_42, List.forall_mem_cons.mpr ⟨mw_43, List.forall_mem_cons.mpr ⟨mw_44, List.forall_mem_cons.mpr ⟨mw_45, List.forall_mem_cons.mpr ⟨mw_46, List.forall_mem_cons.mpr ⟨mw_47, List.forall_mem_cons.mpr ⟨mw_48, List.forall_mem_cons.mpr ⟨mw_49, List.forall_mem_cons.mpr ⟨mw_50, List.forall_mem_cons.mpr ⟨mw_51, List.forall_mem_cons.mpr ⟨mw_52, List.forall_mem_cons.mpr ⟨mw_53, List.forall_mem_cons.mpr ⟨mw_54, List.forall_mem_cons.mpr ⟨mw_55, List.forall_mem_cons.mpr ⟨mw_56, List.forall_mem_cons.mpr ⟨mw_57, List.forall_mem_cons.mpr ⟨mw_58, List.forall_mem_cons.mpr ⟨mw_59, List.forall_mem_cons.mpr ⟨mw_60, List.forall_mem_cons.mpr ⟨mw_61, List.forall_mem_cons.mpr ⟨mw_62, List.forall_mem_cons.mpr ⟨mw_63, List.forall_mem_cons.mpr ⟨mw_64, List.forall_mem_cons.mpr ⟨mw_65, List.forall_mem_cons.mpr ⟨mw_66, List.forall_mem_cons.mpr ⟨mw_67, List.forall_mem_cons.mpr ⟨mw_68, List.forall_mem_cons.mpr ⟨mw_69, List.forall_mem_cons.mpr ⟨mw_70, List.forall_mem_cons.mpr ⟨mw_71, List.forall_mem_cons.mpr ⟨mw_72, List.forall_mem_cons.mpr ⟨mw_73, List.forall_mem_cons.mpr ⟨mw_74, List.forall_mem_cons.mpr ⟨mw_75, List.forall_mem_cons.mpr ⟨mw_76, List.forall_mem_cons.mpr ⟨mw_77, List.forall_mem_cons.mpr ⟨mw_78, List.forall_mem_cons.mpr ⟨mw_79, fun _ h => absurd h List.not_mem_nil⟩⟩⟩⟩⟩⟩⟩⟩⟩⟩⟩⟩⟩⟩⟩⟩⟩⟩⟩⟩⟩⟩⟩⟩⟩⟩⟩⟩⟩⟩⟩⟩⟩⟩⟩⟩⟩⟩⟩⟩
def mwB2 : List (Nat × Nat) := [(80, 771), (81, 802), (82, 810), (83, 827), (84, 846), (85, 863), (86, 878), (87, 895), (88, 917), (89, 925), (90, 933), (91, 945), (92, 952), (93, 961), (94, 971), (95, 985), (96, 993), (97, 1002), (98, 1009), (99, 1016), (100, 271), (101, 275), (102, 1041), (103, 1051), (104, 337), (105, 906), (106, 466), (107, 567), (108, 599), (109, 534), (110, 583), (111, 899), (112, 648), (113, 689), (114, 814), (115, 975), (116, 482), (117, 282), (118, 838), (119, 936)]
theorem mwB2_ok : ∀ q ∈ mwB2, tables_1[q.2]? = some (mW q.1) := List.forall_mem_cons.mpr ⟨mw_80, List.forall_mem_cons.mpr ⟨mw_81, List.forall_mem_cons.mpr ⟨mw_82, List.forall_mem_cons.mpr ⟨mw_83, List.forall_mem_cons.mpr ⟨mw_84, List.forall_mem_cons.mpr ⟨mw_85, List.forall_mem_cons.mpr ⟨mw_86, List.forall_mem_cons.mpr ⟨mw_87, List.forall_mem_cons.mpr ⟨mw_88, List.forall_mem_cons.mpr ⟨mw_89, List.forall_mem_cons.mpr ⟨mw_90, List.forall_mem_cons.mpr ⟨mw_91, List.forall_mem_cons.mpr ⟨mw_92, List.forall_mem_cons.mpr ⟨mw_93, List.forall_mem_cons.mpr ⟨mw_94, List.forall_mem_cons.mpr ⟨mw_95, List.forall_mem_cons.mpr ⟨mw_96, List.forall_mem_cons.mpr ⟨mw_97, List.forall_mem_cons.mpr ⟨mw_98, List.forall_mem_cons.mpr ⟨mw_99, List.forall_mem_cons.mpr ⟨mw_100, List.forall_mem_cons.mpr ⟨mw_101, List.forall_mem_cons.mpr ⟨mw_102, List.forall_mem_cons.mpr ⟨mw_103, List.forall_mem_cons.mpr ⟨mw_104, List.forall_mem_cons.mpr ⟨mw_105, List.forall_mem_cons.mpr ⟨mw_106, List.forall_mem_cons.mpr ⟨mw_107, List.forall_mem_cons.mpr ⟨mw_108, List.forall_mem_cons.mpr ⟨mw_109, List.forall_mem_cons.mpr ⟨mw_110, List.forall_mem_cons.mpr ⟨mw_111, List.forall_mem_cons.mpr ⟨mw_112, List.forall_mem_cons.mpr ⟨mw_113, List.forall_mem_cons.mpr ⟨mw_114, List.forall_mem_cons.mpr ⟨mw_115, List.forall_mem_cons.mpr ⟨mw_116, List.forall_mem_cons.mpr ⟨mw_117, List.forall_mem_cons.mpr ⟨mw_118, List.forall_mem_cons.mpr ⟨mw_119, fun _ h => absurd h List.not_mem_nil⟩⟩⟩⟩⟩⟩⟩⟩⟩⟩⟩⟩⟩⟩⟩⟩⟩⟩⟩⟩⟩⟩⟩⟩⟩⟩⟩⟩⟩⟩⟩⟩⟩⟩⟩⟩⟩⟩⟩⟩
def mwB3 : List (Nat × Nat) := [(120, 1061), (121, 1191), (122, 1199), (123, 1210), (124, 1207), (125, 1272), (126, 1284), (127, 1336), (128, 1244), (129, 1264), (130, 1276), (131, 1324), (132, 1332), (133, 1328), (134, 1340), (135, 1222), (136, 1393), (137, 1389), (138, 1320), (139, 1316), (140, 1195), (141, 1203), (142, 1214), (143, 1218), (144, 1229), (145, 1232), (146, 1226), (147, 1236), (148, 1240), (149, 1248), (150, 1252), (151, 1256), (152, 1260), (153, 1268), (154, 1280), (155, 1288), (156, 1292), (157, 1296), (158, 1300), (159, 1304)]
theorem mwB3_ok : ∀ q ∈ mwB3, tables_1[q.2]? = some (mW q.1) := List.forall_mem_cons.mpr ⟨mw_120, List.forall_mem_cons.mpr ⟨mw_121, List.forall_mem_cons.mpr ⟨mw_122, List.forall_mem_cons.mpr ⟨mw_123, List.forall_mem_cons.mpr ⟨mw_124, List.forall_mem_cons.mpr ⟨mw_125, List.forall_mem_cons.mpr ⟨mw_126, List.forall_mem_cons.mpr ⟨mw_127, List.forall_mem_cons.mpr ⟨mw_128, List.forall_mem_cons.mpr ⟨mw_129, List.forall_mem_cons.mpr ⟨mw_130, List.forall_mem_cons.mpr ⟨mw_131, List.forall_mem_cons.mpr ⟨mw_132, List.forall_mem_cons.mpr ⟨mw_133, List.forall_mem_cons.mpr ⟨mw_134, List.forall_mem_cons.mpr ⟨mw_135, List.forall_mem_cons.mpr ⟨mw_136, List.forall_mem_cons.mpr ⟨mw_137, List.forall_mem_cons.mpr ⟨mw_138, List.forall_mem_cons.mpr ⟨mw_139, List.forall_mem_cons.mpr ⟨mw_140, List.forall_mem_cons.mpr ⟨mw_141, List.forall_mem_cons.mpr ⟨mw_142, List.forall_mem_cons.mpr ⟨mw_143, List.forall_mem_cons.mpr ⟨mw_144, List.forall_mem_cons.mpr ⟨mw_145, List.forall_mem_cons.mpr ⟨mw_146, List.forall_mem_cons.mpr ⟨mw_147, List.forall_mem_cons.mpr ⟨mw_148, List.forall_mem_cons.mpr ⟨mw_149, List.forall_mem_cons.mpr ⟨mw_150, List.forall_mem_cons.mpr ⟨mw_151, List.forall_mem_cons.mpr ⟨mw_152, List.forall_mem_cons.mpr ⟨mw_153, List.forall_mem_cons.mpr ⟨mw_154, List.forall_mem_cons.mpr ⟨mw_155, List.forall_mem_cons.mpr ⟨mw_156, List.forall_mem_cons.mpr ⟨mw_157, List.forall_mem_cons.mpr ⟨mw_158, List.forall_mem_cons.mpr ⟨mw_159, fun _ h => absurd h List.not_mem_nil⟩⟩⟩⟩⟩⟩⟩⟩⟩⟩⟩⟩⟩⟩⟩⟩⟩⟩⟩⟩⟩⟩⟩⟩⟩⟩⟩⟩⟩⟩⟩⟩⟩⟩⟩⟩⟩⟩⟩⟩
def mwB4 : List (Nat × Nat) := [(160, 1308), (161, 1312), (162, 1345), (163, 1349), (164, 1353), (165, 1357), (166, 1361), (167, 1365), (168, 1373), (169, 1369), (170, 1377), (171, 1385), (172, 1381), (173, 1398), (174, 1416), (175, 1412), (176, 1420), (177, 1424), (178, 1432), (179, 1428), (180, 1436), (181, 1440), (182, 1444), (183, 1448), (184, 1452), (185, 1456), (186, 1460), (187, 1464), (188, 1468), (189, 1472), (190, 1404), (191, 1401), (192, 349), (193, 433), (194, 513), (195, 525), (196, 559), (197, 575), (198, 591), (199, 607)]
theorem mwB4_ok : ∀ q ∈ mwB4, tables_1[q.2]? = some (mW q.1) := List.forall_mem_cons.mpr ⟨mw_160, List.forall_mem_cons.mpr ⟨mw_161, List.forall_mem_cons.mpr ⟨mw_162, List.forall_mem_cons.mpr ⟨mw_163, List.forall_mem_cons.mpr ⟨mw_164, List.forall_mem_cons.mpr ⟨mw_165, List.forall_mem_cons.mpr ⟨mw_166, List.forall_mem_cons.mpr ⟨mw_167, List.forall_mem_cons.mpr ⟨mw_168, List.forall_mem_cons.mpr ⟨mw_169, List.forall_mem_cons.mpr ⟨mw_170, List.forall_mem_cons.mpr ⟨mw_171, List.forall_mem_cons.mpr ⟨mw_172, List.forall_mem_cons.mpr ⟨mw_173, List.forall_mem_cons.mpr ⟨mw_174, List.forall_mem_cons.mpr ⟨mw_175, List.forall_mem_cons.mpr ⟨mw_176, List.forall_mem_cons.mpr ⟨mw_177, List.forall_mem_cons.mpr ⟨mw_178, List.forall_mem_cons.mpr ⟨mw_179, List.forall_mem_cons.mpr ⟨mw_180, List.forall_mem_cons.mpr ⟨mw_181, List.forall_mem_cons.mpr ⟨mw_182, List.forall_mem_cons.mpr ⟨mw_183, List.forall_mem_cons.mpr ⟨mw_184, List.forall_mem_cons.mpr ⟨mw_185, List.forall_mem_cons.mpr ⟨mw_186, List.forall_mem_cons.mpr ⟨mw_187, List.forall_mem_cons.mpr ⟨mw_188, List.forall_mem_cons.mpr ⟨mw_189, List.forall_mem_cons.mpr ⟨mw_190, List.forall_mem_cons.mpr ⟨mw_191, List.forall_mem_cons.mpr ⟨mw_192, List.forall_mem_cons.mpr ⟨mw_193, List.forall_mem_cons.mpr ⟨mw_194, List.forall_mem_cons.mpr ⟨mw_195, List.forall_mem_cons.mpr ⟨mw_196, List.forall_mem_cons.mpr ⟨mw_197, List.forall_mem_cons.mpr ⟨mw_198, List.forall_mem_cons.mpr ⟨mw_199, fun _ h => absurd h List.not_mem_nil⟩⟩⟩⟩⟩⟩⟩⟩⟩⟩⟩⟩⟩⟩⟩⟩⟩⟩⟩⟩⟩⟩⟩⟩⟩⟩⟩⟩⟩⟩⟩⟩⟩⟩⟩⟩⟩⟩⟩⟩
def mwB5 : List (Nat × Nat) := [(200, 614), (201, 626), (202, 639), (203, 681), (204, 701), (205, 712), (206, 723), (207, 734), (208, 745), (209, 756), (210, 767), (211, 798), (212, 806), (213, 823), (214, 842), (215, 859), (216, 874), (217, 891), (218, 913), (219, 921), (220, 929), (221, 941), (222, 948), (223, 957), (224, 967), (225, 981), (226, 989), (227, 998), (228, 1005), (229, 1012), (230, 1023), (231, 1047)]
theorem mwB5_ok : ∀ q ∈ mwB5, tables_1[q.2]? = some (mW q.1) := List.forall_mem_cons.mpr ⟨mw_200, List.forall_mem_cons.mpr ⟨mw_201, List.forall_mem_cons.mpr ⟨mw_202, List.forall_mem_cons.mpr ⟨mw_203, List.forall_mem_cons.mpr ⟨mw_204, List.forall_mem_cons.mpr ⟨mw_205, List.forall_mem_cons.mpr ⟨mw_206, List.forall_mem_cons.mpr ⟨mw_207, List.forall_mem_cons.mpr ⟨mw_208, List.forall_mem_cons.mpr ⟨mw_209, List.forall_mem_cons.mpr ⟨mw_210, List.forall_mem_cons.mpr ⟨mw_211, List.forall_mem_cons.mpr ⟨mw_212, List.forall_mem_cons.mpr ⟨mw_213, List.forall_mem_cons.mpr ⟨mw_214, List.forall_mem_cons.mpr ⟨mw_215, List.forall_mem_cons.mpr ⟨mw_216, List.forall_mem_cons.mpr ⟨mw_217, List.forall_mem_cons.mpr ⟨mw_218, List.forall_mem_cons.mpr ⟨mw_219, List.forall_mem_cons.mpr ⟨mw_220, List.forall_mem_cons.mpr ⟨mw_221, List.forall_mem_cons.mpr ⟨mw_222, List.forall_mem_cons.mpr ⟨mw_223, List.forall_mem_cons.mpr ⟨mw_224, List.forall_mem_cons.mpr ⟨mw_225, List.forall_mem_cons.mpr ⟨mw_226, List.forall_mem_cons.mpr ⟨mw_227, List.forall_mem_cons.mpr ⟨mw_228, List.forall_mem_cons.mpr ⟨mw_229, List.forall_mem_cons.mpr ⟨mw_230, List.forall_mem_cons.mpr ⟨mw_231, fun _ h => absurd h List.not_mem_nil⟩⟩⟩⟩⟩⟩⟩⟩⟩⟩⟩⟩⟩⟩⟩⟩⟩⟩⟩⟩⟩⟩⟩⟩⟩⟩⟩⟩⟩⟩⟩⟩
def mwA : List (Nat × Nat) := mwB0 ++ (mwB1 ++ (mwB2 ++ (mwB3 ++ (mwB4 ++ (mwB5)))))
theorem mwA_ok : ∀ q ∈ mwA, tables_1[q.2]? = some (mW q.1) := List.forall_mem_append.mpr ⟨mwB0_ok, List.forall_mem_append.mpr ⟨mwB1_ok, List.forall_mem_append.mpr ⟨mwB2_ok, List.forall_mem_append.mpr ⟨mwB3_ok, List.forall_mem_append.mpr ⟨mwB4_ok, mwB5_ok⟩⟩⟩⟩⟩
theorem mwA_all : ∀ k, k < 232 → (k, mwA.lookup k) ∈ mwA.map (fun q => (q.1, some q.2)) := by decide +kernel
theorem meth_good (k : Nat) : goodWord (mW k) = true := by
  unfold mW
  cases mH k <;> rfl
theorem meth_tab : ∀ k, k < 232 → mW k ∈ TW := by
  intro k hk
  obtain ⟨q, hq, he⟩ := List.mem_map.mp (mwA_all k hk)
  have h1 : q.1 = k := congrArg Prod.fst he
  have := mwA_ok q hq
  rw [h1] at this
  exact TW_in (List.mem_of_getElem? this) (meth_good k)
theorem meth_ok2 : ∀ k, k < 233 → (mY k).cls ≠ "java/lang/invoke/MethodHandle" ∧ (mY k).cls ≠ "java/lang/invoke/VarHandle" := by decide +kernel
theorem meth_ok3 : ∀ k, k < 233 → (parseMethodDescriptor (mY k).desc).map (fun d => d.parameters.length) = some (mA k) := by decide +kernel
theorem meth_ok4 : ∀ k, k < 233 → (mY k).cls = ownN (mO k) ∧ mO k < 11 := by decide +kernel
theorem own_plain : ∀ o, o < 10 → plainName (ownN o) = true := by
  intro o h
  rcases o with _ | _ | _ | _ | _ | _ | _ | _ | _ | _ | o
  · show plainName RX0 = true; decide
  · show plainName RX1 = true; decide
  · show plainName RX2 = true; decide
  · show plainName RX3 = true; decide
  · show plainName RX4 = true; decide
  · show plainName RX5 = true; decide
  · show plainName RX6 = true; decide
  · show plainName RX7 = true; decide
  · show plainName RX8 = true; decide
  · show plainName RL = true; decide
  · omega
theorem float_plain : plainFor yJxf58ca_isNaN_12338 = true ∧ plainFor yJxf58ca_floatToIntBits_5c35a = true := by decide +kernel
theorem meth_ok5 : ∀ k, k < 233 → mO k = 10 → mY k = yJxf58ca_isNaN_12338 ∨ mY k = yJxf58ca_floatToIntBits_5c35a := by decide +kernel
theorem meth_ok1 (k : Nat) (h : k < 233) : plainFor (mY k) = true := by
  by_cases h10 : mO k < 10
  · refine plainFor_of_name ?_
    rw [(meth_ok4 k h).1]
    exact own_plain _ h10
  · have h11 : mO k = 10 := by have := (meth_ok4 k h).2; omega
    rcases meth_ok5 k h h11 with e | e
    · rw [e]; exact float_plain.1
    · rw [e]; exact float_plain.2
theorem law_last : kL_law = 232 := rfl
/-- the words that a call needs beside its code's -/
def calWs (o x kd k' : Nat) : List Cond := match kd with
  | 0 => [.methodLink (ownN o) x (mY k'), .instanceMethod (mY k'), .initialized (mY k').cls]
  | 1 => [.methodLink (ownN o) x (mY k'), .static (mY k'), .initialized (mY k').cls]
  | 2 => [.methodLink (ownN o) x (mY k'), .static (mY k'), .initialized (mY k').cls]
  | 3 => [.methodLink (ownN o) x (mY k'), .instanceMethod (mY k'), .initialized (mY k').cls]
  | 4 => [.instanceMethod (mY k'), .initialized (mY k').cls]
  | 5 => [.static (mY k'), .initialized (mY k').cls]
  | 6 => [.methodLink (ownN o) x objectInit, .instanceMethod objectInit, .code objectInit ⟨#[0xb1]⟩ 1 none]
  | 7 => [.methodLink (ownN o) x Lib.Math.abs.name, .static Lib.Math.abs.name, .initialized "java/lang/Math", .code Lib.Math.abs.name Lib.Math.abs.code 1 (some .int)]
  | 8 => [.methodLink (ownN o) x arraycopyName, .native arraycopyName, .static arraycopyName, .initialized "java/lang/System"]
  | 9 => [.methodLink (ownN o) x ⟨"java/lang/Float", "floatToRawIntBits", "(F)I"⟩, .native ⟨"java/lang/Float", "floatToRawIntBits", "(F)I"⟩, .static ⟨"java/lang/Float", "floatToRawIntBits", "(F)I"⟩, .initialized "java/lang/Float"]
  | _ => []
def calPl (kd k' : Nat) : Bool := match kd with
  | 0 => decide (mH k' = [])
  | 1 => decide (mH k' = [])
  | 2 => decide (mH k' ≠ [])
  | 3 => decide (mH k' = []) && (decide ((mY k').name = "<init>") && decide (mR k' = none))
  | 4 => decide (mH k' = []) && (decide ((mY k').name = "<init>") && decide (mR k' = none))
  | 5 => decide (mH k' = [])
  | _ => true
def calI : List (List (List Nat)) := [[[107, 31, 32], [109, 63, 4]], [[100, 31, 32], [105, 7], [311, 312, 6], [856, 773, 6], [315, 316, 3], [307, 308, 6], [820, 300, 6], [342, 296, 4], [343, 344, 6]], [[38, 31, 32], [44, 3], [62, 63, 4], [84, 5], [97, 98, 6], [182, 8], [503, 504, 18, 505], [281, 1], [623, 602, 4], [671, 672, 4], [678, 265, 4], [781, 773, 6], [782, 783, 2], [786, 312, 6], [787, 788, 6], [299, 300, 6], [791, 308, 6], [287, 288, 2], [792, 793, 6], [295, 296, 4], [832, 834, 2], [837, 1], [839, 586, 3], [852, 853, 6], [868, 869, 6], [321, 322, 8], [303, 304, 6], [291, 292, 2], [320, 316, 3], [325, 326, 5], [329, 330, 8], [283, 284, 2]], [[184, 31, 32]], [[65, 31, 32], [675, 677, 676, 21]], [[86, 31, 32]], [[46, 31, 32]], [[30, 31, 32], [35, 36, 2], [427, 428, 2], [463, 465, 1], [480, 481, 1], [499, 500, 2], [507, 508, 2], [519, 520, 2], [531, 533, 1], [551, 326, 5], [553, 554, 5], [564, 566, 1], [569, 570, 3], [580, 582, 1], [585, 586, 3], [596, 598, 1], [600, 281, 1], [601, 602, 4], [619, 620, 2], [631, 296, 4], [633, 634, 4], [264, 265, 4], [645, 647, 1], [667, 668, 2], [686, 688, 1], [691, 692, 2], [695, 696, 7], [706, 707, 7], [717, 718, 7], [728, 729, 7], [739, 740, 7], [750, 751, 6], [761, 762, 6], [772, 773, 6], [777, 778, 2], [803, 783, 2], [811, 813, 1], [816, 817, 6], [828, 829, 2], [848, 849, 2], [864, 865, 2], [881, 882, 2], [885, 886, 8], [896, 898, 1], [901, 322, 8], [903, 905, 1], [926, 284, 2], [934, 935, 1], [276, 277, 2], [953, 292, 2], [962, 300, 6], [964, 308, 6], [972, 974, 1], [978, 316, 3], [986, 312, 6], [994, 837, 1], [1017, 1018, 6], [1052, 1053, 6], [338, 339, 6], [907, 908, 2], [976, 344, 6]], [[1062, 31, 32], [1208, 1209, 9], [1269, 1271, 9], [1273, 1275, 9], [1321, 1323, 9], [1329, 1331, 9], [1333, 1335, 9], [1325, 1327, 9], [1337, 1339, 9], [1219, 1221, 9], [1390, 1392, 9], [1196, 1198, 9], [1204, 1206, 9], [1227, 1228, 9], [1230, 1231, 9], [1241, 1243, 9], [1261, 1263, 9], [1281, 1283, 9], [1313, 1315, 9], [1317, 1319, 9], [1370, 1372, 9], [1382, 1384, 9], [1386, 1388, 9], [1399, 1400, 23], [1413, 1415, 9], [1429, 1431, 9]], [[351, 352, 1], [459, 460, 1], [514, 515, 1], [527, 528, 1], [560, 561, 1], [576, 577, 1], [592, 593, 1], [608, 609, 1], [615, 616, 1], [627, 628, 1], [641, 642, 1], [682, 683, 1], [702, 703, 1], [713, 714, 1], [724, 725, 1], [735, 736, 1], [746, 747, 1], [757, 758, 1], [768, 769, 1], [799, 800, 1], [807, 808, 1], [824, 825, 1], [843, 844, 1], [860, 861, 1], [875, 876, 1], [892, 893, 1], [914, 915, 1], [922, 923, 1], [930, 931, 1], [942, 943, 1], [949, 950, 1], [958, 959, 1], [968, 969, 1], [982, 983, 1], [990, 991, 1], [999, 1000, 1], [1006, 1007, 1], [1013, 1014, 1], [1038, 1039, 1], [1048, 1049, 1], [27, 28, 1], [1059, 1060, 9], [347, 348, 0], [1192, 1193, 9], [1188, 1189, 9], [431, 432, 0], [1200, 1201, 9], [511, 512, 0], [1211, 1212, 9], [523, 524, 0], [1215, 1216, 9], [557, 558, 0], [1223, 1224, 9], [573, 574, 0], [1233, 1234, 9], [589, 590, 0], [1237, 1238, 9], [605, 606, 0], [1245, 1246, 9], [612, 613, 0], [1249, 1250, 9], [624, 625, 0], [1253, 1254, 9], [260, 261, 1], [1257, 1258, 9], [637, 638, 0], [1265, 1266, 9], [679, 680, 0], [1277, 1278, 9], [699, 700, 0], [1285, 1286, 9], [710, 711, 0], [1289, 1290, 9], [721, 722, 0], [1293, 1294, 9], [732, 733, 0], [1297, 1298, 9], [743, 744, 0], [1301, 1302, 9], [754, 755, 0], [1305, 1306, 9], [765, 766, 0], [1309, 1310, 9], [796, 797, 0], [1342, 1343, 9], [804, 805, 0], [1346, 1347, 9], [821, 822, 0], [1350, 1351, 9], [840, 841, 0], [1354, 1355, 9], [857, 858, 0], [1358, 1359, 9], [872, 873, 0], [1362, 1363, 9], [889, 890, 0], [1366, 1367, 9], [911, 912, 0], [1374, 1375, 9], [919, 920, 0], [1378, 1379, 9], [927, 928, 0], [1395, 1396, 9], [939, 940, 0], [1409, 1410, 9], [946, 947, 0], [1417, 1418, 9], [955, 956, 0], [1421, 1422, 9], [965, 966, 0], [1425, 1426, 9], [979, 980, 0], [1433, 1434, 9], [987, 988, 0], [1437, 1438, 9], [996, 997, 0], [1441, 1442, 9], [1003, 1004, 0], [1445, 1446, 9], [1010, 1011, 0], [1449, 1450, 9], [268, 269, 1], [1453, 1454, 9], [272, 273, 1], [1457, 1458, 9], [1021, 1022, 0], [1461, 1462, 9], [1045, 1046, 0], [1465, 1466, 9], [334, 335, 1], [1469, 1470, 9]], [[1402, 1403, 23], [1405, 1407, 1406, 23]]]
set_option maxRecDepth 100000 in
set_option maxHeartbeats 4000000 in
theorem cal_tab : ∀ o, o < 11 → (calT.getD o []).length ≤ (calI.getD o []).length ∧ ∀ q ∈ (calT.getD o []).zip (calI.getD o []), calPl q.1.2.1 q.1.2.2 = true ∧ atP (calWs o q.1.1 q.1.2.1 q.1.2.2) q.2 = true := by decide +kernel
def selI : List (List Nat) := [[0, 0], [0, 0, 347, 808, 351, 343, 335, 331, 379], [0, 0, 0, 0, 0, 0, 0, 0, 637, 707, 300, 808, 818, 347, 823, 335, 343, 323, 828, 331, 9, 0, 621, 888, 904, 357, 339, 327, 351, 361, 365, 319], [0], [0, 0], [0], [0], [0, 0, 463, 1, 0, 535, 543, 555, 2, 361, 589, 3, 605, 4, 621, 5, 0, 637, 655, 331, 669, 300, 6, 703, 7, 727, 731, 742, 753, 764, 775, 786, 797, 808, 813, 818, 8, 852, 864, 884, 900, 917, 921, 10, 357, 11, 319, 0, 312, 327, 335, 343, 12, 351, 347, 0, 1053, 1088, 374, 943, 379], [0, 0, 18, 19, 23, 25, 26, 24, 27, 15, 31, 13, 14, 0, 0, 16, 17, 20, 21, 22, 28, 29, 30, 0, 32, 33], [387, 495, 550, 563, 596, 612, 628, 644, 651, 663, 677, 718, 738, 749, 760, 771, 782, 793, 804, 835, 843, 860, 879, 896, 911, 928, 950, 958, 966, 978, 985, 994, 1004, 1018, 1026, 1035, 1042, 1049, 1074, 1084, 0, 0, 0, 1228, 1224, 0, 1236, 0, 1247, 0, 1251, 0, 1259, 0, 1269, 0, 1273, 0, 1281, 0, 1285, 0, 1289, 296, 1293, 0, 1301, 0, 1313, 0, 1321, 0, 1325, 0, 1329, 0, 1333, 0, 1337, 0, 1341, 0, 1345, 0, 1378, 0, 1382, 0, 1386, 0, 1390, 0, 1394, 0, 1398, 0, 1402, 0, 1410, 0, 1414, 0, 1431, 0, 1445, 0, 1453, 0, 1457, 0, 1461, 0, 1469, 0, 1473, 0, 1477, 0, 1481, 0, 1485, 304, 1489, 308, 1493, 0, 1497, 0, 1501, 370, 1505], [0, 0]]
set_option maxRecDepth 100000 in
theorem cal_sel : ∀ o, o < 11 → (calT.getD o []).length ≤ (selI.getD o []).length ∧ ∀ q ∈ (calT.getD o []).zip (selI.getD o []), q.1.2.1 = 0 → lw_tbl[q.2]? = some (Cond.selects (mY q.1.2.2).cls (mY q.1.2.2) (mY q.1.2.2)) := by decide +kernel
def nestI : List (List Nat) := [[0, 0], [0, 104, 0, 0, 0, 0, 0, 0, 0], [0, 43, 0, 83, 0, 181, 0, 280, 0, 0, 0, 0, 0, 0, 0, 0, 0, 0, 0, 0, 0, 836, 0, 0, 0, 0, 0, 0, 0, 0, 0, 0], [0], [0, 0], [0], [0], [0, 0, 0, 0, 0, 0, 0, 0, 0, 0, 0, 0, 0, 0, 0, 0, 0, 0, 0, 0, 0, 0, 0, 0, 0, 0, 0, 0, 0, 0, 0, 0, 0, 0, 0, 0, 0, 0, 0, 0, 0, 0, 0, 0, 0, 0, 0, 0, 0, 0, 0, 0, 0, 0, 0, 0, 0, 0, 0, 0, 0], [0, 0, 0, 0, 0, 0, 0, 0, 0, 0, 0, 0, 0, 0, 0, 0, 0, 0, 0, 0, 0, 0, 0, 0, 0, 0], [0, 0, 0, 0, 0, 0, 0, 0, 0, 0, 0, 0, 0, 0, 0, 0, 0, 0, 0, 0, 0, 0, 0, 0, 0, 0, 0, 0, 0, 0, 0, 0, 0, 0, 0, 0, 0, 0, 0, 0, 0, 0, 0, 0, 0, 0, 0, 0, 0, 0, 0, 0, 0, 0, 0, 0, 0, 0, 0, 0, 0, 0, 0, 0, 0, 0, 0, 0, 0, 0, 0, 0, 0, 0, 0, 0, 0, 0, 0, 0, 0, 0, 0, 0, 0, 0, 0, 0, 0, 0, 0, 0, 0, 0, 0, 0, 0, 0, 0, 0, 0, 0, 0, 0, 0, 0, 0, 0, 0, 0, 0, 0, 0, 0, 0, 0, 0, 0, 0, 0, 0, 0, 0, 0, 0, 0, 0, 0, 0, 0, 0], [0, 0]]
set_option maxRecDepth 100000 in
theorem cal_nest : ∀ o, o < 11 → (calT.getD o []).length ≤ (nestI.getD o []).length ∧ ∀ q ∈ (calT.getD o []).zip (nestI.getD o []), (q.1.2.1 = 4 ∨ q.1.2.1 = 5) → tables_1[q.2]? = some (Cond.methodLinkNest (ownN o) q.1.1 (mY q.1.2.2) "Lampboard") := by decide +kernel
def excN (e : Nat) : String := excT.getD e ""
def newWs (o x kd ci : Nat) : List Cond := match kd with
  | 0 => [.classLink (ownN o) x (rF ci)]
  | _ => [.classLink (ownN o) x (excN ci), .initialized (excN ci)]
def newI : List (List (List Nat)) := [[[108]], [[101]], [[39], [41], [60], [78], [80]], [], [], [], [], [[33], [355, 13], [535, 19], [650, 20], [483, 17], [1042, 24], [467, 14]], [], [[25], [1057]], []]
set_option maxRecDepth 100000 in
theorem new_tab : ∀ o, o < 11 → (newT.getD o []).length ≤ (newI.getD o []).length ∧ ∀ q ∈ (newT.getD o []).zip (newI.getD o []), (q.1.2.1 = 0 → q.1.2.2 < 9) ∧ (q.1.2.1 = 1 → q.1.2.2 < 6) ∧ atP (newWs o q.1.1 q.1.2.1 q.1.2.2) q.2 = true := by decide +kernel
def ldcW (o x : Nat) : Value → List Cond
  | .float v => [.constantFloat (ownN o) x v]
  | .double v => [.constantDouble (ownN o) x v]
  | .int v => [.constant (ownN o) x v]
  | _ => []
def ldI : List (List Nat) := [[], [319], [333], [], [], [], [], [937, 938], [1341, 1394], [], [1408]]
theorem ldc_tab : ∀ o, o < 11 → (ldcT.getD o []).length ≤ (ldI.getD o []).length ∧ ∀ q ∈ (ldcT.getD o []).zip (ldI.getD o []), atP (ldcW o q.1.1 q.1.2) [q.2] = true := by decide +kernel
def strI : List Nat := [400, 506, 518, 552, 568, 632, 659, 666, 776, 847, 879, 880, 902, 918, 954, 963, 995, 815, 1043, 1056, 476, 544, 584, 900, 649, 690, 977, 492]
theorem str_tab : (strT.getD 7 []).length ≤ strI.length ∧ ∀ q ∈ (strT.getD 7 []).zip strI, tables_1[q.2]? = some (Cond.stringRef RX7 q.1.1 q.1.2) := by decide +kernel
theorem arr_tab : atP [.arrayClass .int, .arrayClass .float, .arrayClass .boolean, .arrayClass .long, .arrayClass .double] [59, 140, 1187, 1473, 1474] = true := by decide +kernel
theorem over_tab : ([RX5, RX1, RX3, RX0].zip [40, 79, 81, 102]).all (fun q => decide (tables_1[q.2]? = some (Cond.arrayOver (.object q.1)))) = true := by decide +kernel
end
section
/-! what holds of the real machine all along a run of this claim -/
def tysOf (tA : Nat → ClassId) : List (ClassId × FieldType) := [(tA 0, .int), (tA 1, .float), (tA 2, .boolean), (tA 3, .long), (tA 4, .double), (tA 5, .object RX5), (tA 6, .object RX1), (tA 7, .object RX3), (tA 8, .object RX0)]
/-- of the tables -/
def SF (D : va_G) (tA : Nat → ClassId) (U : State) : Prop :=
  va_K D vw9 (tysOf tA) U ∧ (∀ w ∈ TW, w.before #[] U = true) ∧ (∀ w ∈ TX, va_Nw w U) ∧ (∀ C ∈ [RX5, RX1, RX3, RX0], va_AO C U) ∧ (∀ q ∈ strT.getD 7 [], ∃ a, vk_R RX7 q.1 q.2 a U) ∧ (∀ e, e < 6 → ∀ e', e' < 6 → e ≠ e' → va_Nc (excN e) (excN e') U) ∧ (∀ q ∈ lw_privs, (Cond.selects q.1.cls q.1 q.1).before #[] U = true)
theorem TW_good {w : Cond} (h : w ∈ TW) : (w.onTables && w.keeps) = true ∨ ∃ ty, w = .arrayClass ty := good_of_word (List.mem_filter.mp h).2
theorem SF.warm {D : va_G} {tA : Nat → ClassId} {s U : State} (hW : s.WarmedH U.vm) (h : SF D tA s) : SF D tA U := by
  obtain ⟨h1, h2, h3, h4, h5, h6, h7⟩ := h
  refine ⟨va_K.moved hW.alike h1, fun w hw => word_at hW (TW_good hw) (h2 w hw), fun w hw => ?_, fun C hC => va_AO.moved hW.alike (h4 C hC), fun q hq => ?_, fun e he e' he' hn => va_Nc.moved hW.alike (h6 e he e' he' hn), fun q hq => word_at hW (Or.inl rfl) (h7 q hq)⟩
  · have hs := (List.mem_filter.mp hw).2
    cases w with
    | declares x => exact va_Nw.warmD hW (h3 _ hw)
    | castable a b => exact va_Nw.warmC hW (h3 _ hw)
    | methodLinkNest a i x b => exact va_Nw.warmM hW (h3 _ hw)
    | _ => exact absurd hs (by simp [spW])
  · obtain ⟨a, ha⟩ := h5 q hq
    exact ⟨a, vk_R.warm hW ha⟩
theorem SF.word {D : va_G} {tA : Nat → ClassId} {s : State} {args : Array Value} (h : SF D tA s) {w : Cond} (hw : w ∈ TW) : w.before args s = true := word_at (State.WarmedH.refl s) (TW_good hw) (h.2.1 w hw)
theorem SF.words {D : va_G} {tA : Nat → ClassId} {s : State} {args : Array Value} (h : SF D tA s) : ∀ w ∈ TW, w.before args s = true := fun _ hw => h.word hw
def stk1 : String × String × String := ("java/lang/Throwable", "UNASSIGNED_STACK", "[Ljava/lang/StackTraceElement;")
/-- of the two statics that a throw reads -/
def ZF (A : Nat → Prop) (U : State) (H : Heap) : Prop := vx_Zq Bundle.tN "UNASSIGNED_STACK" Bundle.steD A U H ∧ vx_Zq Bundle.tN "SUPPRESSED_SENTINEL" Bundle.listD A U H
def loA (lo : Nat) : Nat → Prop := fun q => lo ≤ q
/-- of the method that runs -/
def Cx (p : Program) (l : Launch) (R : Room) (s : State) (m : MethodId) (meth : Method) (c : Code) (k lo : Nat) (D : va_G) (tA : Nat → ClassId) : Prop :=
  (p.tables.exec = Jvm.exec ∧ c.code = mB k ∧ s.vm.findClass (ownN (mO k)) = some m.cls ∧ c.maxLocals = mL k) ∧ (meth.locks = false ∧ meth.sig.returnType = mR k ∧ meth.name = (mY k).name ∧ c.exceptionTable.toList = tableOf (mH k)) ∧
  SF D tA s ∧ ZF (loA lo) s s.heap ∧ lo ≤ s.heap.size ∧ (7 + hgt k ≤ R.frames ∧ 200 + 60 * hgt k ≤ R.locals) ∧ l.stackTraces = false
/-- of the cells, the locals and the stack at a point of it; ad0, n0: the addresses at its start -/
def Rl (s : State) (D : va_G) (tA : Nat → ClassId) (lo k : Nat) (ad0 : Nat → Nat) (n0 : Nat) (ad : Nat → Nat) (hp : Hp) (ls st : List Value) (H : Heap) (locs : List Loc) (lsr : Array Slot) : Prop :=
  (va_P D vw9 (wl ad tA hp) H ∧ va_D (loA lo) (wl ad tA hp) ∧ va_S (loA lo) s.heap H locs) ∧ okH hp ∧ ((∀ v ∈ st, okv hp.1 v) ∧ ∀ v ∈ ls, okv hp.1 v) ∧ LR ad (mL k) ls lsr ∧ ((∀ i, i ≤ n0 → ad i = ad0 i) ∧ n0 ≤ hp.1) ∧
  ∃ (L : Nat) (xs : Nat → Int32), hp.2 0 = .inl (0, L, .inl xs) ∧ va_X (ad 0) L xs s s.heap ∧ ad 0 < lo
/-- from every point of the real machine that stands so, it comes to Q -/
def Wg (p : Program) (l : Launch) (e : Env) (R : Room) (s : State) (m : MethodId) (args : Array Value) (below : List Frame) (meth : Method) (c : Code) (Q : State → Prop) (D : va_G) (tA : Nat → ClassId) (lo k : Nat) (ad0 : Nat → Nat) (n0 : Nat) (pc : Nat) (ls st : List Value) (bc bs : Nat) (hp : Hp) : Prop :=
  ∀ (H : Heap) (locs : List Loc) (lsr : Array Slot) (ad : Nat → Nat) (cells slots : Nat), Rl s D tA lo k ad0 n0 ad hp ls st H locs lsr → cells + bc ≤ R.cells → slots + bs ≤ R.slots → W p l e R s m args below meth c H locs cells slots Q (F0 m pc lsr (st.map (tr ad)))
end
section
section STEP
variable {p : Program} {l : Launch} {e : Env} {R : Room} {s : State} {m : MethodId} {args : Array Value} {below : List Frame} {meth : Method} {c : Code} {Q : State → Prop} {D : va_G} {tA : Nat → ClassId} {lo k : Nat} {ad0 : Nat → Nat} {n0 : Nat}
variable {pc pc' : Nat} {ls ls' st st' : List Value} {bc bs bc' bs' : Nat} {hp hp' : Hp}
theorem nos {α : Type} {β : Prop} {x : α} (h : (none : Option α) = some x) : β := nomatch h
theorem ok_tl {n : Nat} {v : Value} {st : List Value} (h : ∀ w ∈ v :: st, okv n w) : ∀ w ∈ st, okv n w := fun w hw => h w (List.mem_cons_of_mem _ hw)
theorem ok_hd {n : Nat} {v : Value} {st : List Value} (h : ∀ w ∈ v :: st, okv n w) : okv n v := h v List.mem_cons_self
theorem ok_cs {n : Nat} {v : Value} {st : List Value} (h1 : okv n v) (h : ∀ w ∈ st, okv n w) : ∀ w ∈ v :: st, okv n w := List.forall_mem_cons.mpr ⟨h1, h⟩
theorem ok_set {n j : Nat} {v : Value} {ls : List Value} (h1 : okv n v) (h : ∀ w ∈ ls, okv n w) : ∀ w ∈ ls.set j v, okv n w := fun w hw => by
  rcases List.mem_or_eq_of_mem_set hw with h2 | h2
  · exact h w h2
  · rw [h2]; exact h1
theorem Wg.go (hk : Wg p l e R s m args below meth c Q D tA lo k ad0 n0 pc' ls st' bc bs hp) (hok : (∀ v ∈ st, okv hp.1 v) → (∀ v ∈ ls, okv hp.1 v) → ∀ v ∈ st', okv hp.1 v) (row : ∀ (H : Heap) (locs : List Loc) (lsr : Array Slot) (ad : Nat → Nat) (cells slots : Nat), LR ad (mL k) ls lsr → W p l e R s m args below meth c H locs cells slots Q (F0 m pc' lsr (st'.map (tr ad))) → W p l e R s m args below meth c H locs cells slots Q (F0 m pc lsr (st.map (tr ad)))) : Wg p l e R s m args below meth c Q D tA lo k ad0 n0 pc ls st bc bs hp := by
  intro H locs lsr ad cells slots hR h1 h2
  obtain ⟨r1, r2, ⟨r3, r4⟩, r5, r6⟩ := hR
  exact row H locs lsr ad cells slots r5 (hk H locs lsr ad cells slots ⟨r1, r2, ⟨hok r3 r4, r4⟩, r5, r6⟩ h1 h2)
theorem nn32_of {r : UInt32} (h : nn32 r = true) : vf_n32 r := of_decide_eq_true (p := r &&& 0x7fffffff ≤ 0x7f800000) h
theorem nn64_of {r : UInt64} (h : nn64 r = true) : vf_n64 r := of_decide_eq_true (p := r &&& 0x7fffffffffffffff ≤ 0x7ff0000000000000) h
theorem jmp_spec {pc t : Nat} {off : Int} (h : jmp pc off = some t) : (pc : Int) + off = (t : Int) := by
  unfold jmp at h
  split at h
  next t' he => cases h; exact he
  next => cases h

theorem n_iconst {n : Int} (hC : Cx p l R s m meth c k lo D tA) (hd : decode (mB k) pc = .ok ((.iconst n), 1)) (h : act k (.iconst n) pc ls st bc bs hp = some (.inl (pc', ls', st', bc', bs', hp'))) (hk : Wg p l e R s m args below meth c Q D tA lo k ad0 n0 pc' ls' st' bc' bs' hp') : Wg p l e R s m args below meth c Q D tA lo k ad0 n0 pc ls st bc bs hp := by
  obtain ⟨⟨hx, hb, hown, hml⟩, ⟨hlk, hr, hmn, hxt⟩, hF, hZ, hlo, hrm, htr⟩ := hC
  have h1 : (some (Sum.inl (pc + 1, ls, .int (Int32.ofInt n) :: st, bc, bs, hp)) : Option Act) = some (Sum.inl (pc', ls', st', bc', bs', hp')) := h
  cases h1
  exact hk.go (fun r _ => ok_cs trivial (r)) (fun H locs lsr ad cells slots hL kk => lv_iconst hx hb hd rfl kk)
theorem n_bipush {n : Int} (hC : Cx p l R s m meth c k lo D tA) (hd : decode (mB k) pc = .ok ((.bipush n), 2)) (h : act k (.bipush n) pc ls st bc bs hp = some (.inl (pc', ls', st', bc', bs', hp'))) (hk : Wg p l e R s m args below meth c Q D tA lo k ad0 n0 pc' ls' st' bc' bs' hp') : Wg p l e R s m args below meth c Q D tA lo k ad0 n0 pc ls st bc bs hp := by
  obtain ⟨⟨hx, hb, hown, hml⟩, ⟨hlk, hr, hmn, hxt⟩, hF, hZ, hlo, hrm, htr⟩ := hC
  have h1 : (some (Sum.inl (pc + 2, ls, .int (Int8.ofInt n).toInt32 :: st, bc, bs, hp)) : Option Act) = some (Sum.inl (pc', ls', st', bc', bs', hp')) := h
  cases h1
  exact hk.go (fun r _ => ok_cs trivial (r)) (fun H locs lsr ad cells slots hL kk => lv_bipush hx hb hd rfl kk)
theorem n_sipush {n : Int} (hC : Cx p l R s m meth c k lo D tA) (hd : decode (mB k) pc = .ok ((.sipush n), 3)) (h : act k (.sipush n) pc ls st bc bs hp = some (.inl (pc', ls', st', bc', bs', hp'))) (hk : Wg p l e R s m args below meth c Q D tA lo k ad0 n0 pc' ls' st' bc' bs' hp') : Wg p l e R s m args below meth c Q D tA lo k ad0 n0 pc ls st bc bs hp := by
  obtain ⟨⟨hx, hb, hown, hml⟩, ⟨hlk, hr, hmn, hxt⟩, hF, hZ, hlo, hrm, htr⟩ := hC
  have h1 : (some (Sum.inl (pc + 3, ls, .int (Int16.ofInt n).toInt32 :: st, bc, bs, hp)) : Option Act) = some (Sum.inl (pc', ls', st', bc', bs', hp')) := h
  cases h1
  exact hk.go (fun r _ => ok_cs trivial (r)) (fun H locs lsr ad cells slots hL kk => lv_sipush hx hb hd rfl kk)
theorem n_lconst {n : Fin 2} (hC : Cx p l R s m meth c k lo D tA) (hd : decode (mB k) pc = .ok ((.lconst n), 1)) (h : act k (.lconst n) pc ls st bc bs hp = some (.inl (pc', ls', st', bc', bs', hp'))) (hk : Wg p l e R s m args below meth c Q D tA lo k ad0 n0 pc' ls' st' bc' bs' hp') : Wg p l e R s m args below meth c Q D tA lo k ad0 n0 pc ls st bc bs hp := by
  obtain ⟨⟨hx, hb, hown, hml⟩, ⟨hlk, hr, hmn, hxt⟩, hF, hZ, hlo, hrm, htr⟩ := hC
  have h1 : (some (Sum.inl (pc + 1, ls, .long (Int64.ofNat (n : Nat)) :: st, bc, bs, hp)) : Option Act) = some (Sum.inl (pc', ls', st', bc', bs', hp')) := h
  cases h1
  exact hk.go (fun r _ => ok_cs trivial (r)) (fun H locs lsr ad cells slots hL kk => lv_lconst hx hb hd rfl kk)
theorem n_fconst0 (hC : Cx p l R s m meth c k lo D tA) (hd : decode (mB k) pc = .ok ((.fconst 0), 1)) (h : act k (.fconst 0) pc ls st bc bs hp = some (.inl (pc', ls', st', bc', bs', hp'))) (hk : Wg p l e R s m args below meth c Q D tA lo k ad0 n0 pc' ls' st' bc' bs' hp') : Wg p l e R s m args below meth c Q D tA lo k ad0 n0 pc ls st bc bs hp := by
  obtain ⟨⟨hx, hb, hown, hml⟩, ⟨hlk, hr, hmn, hxt⟩, hF, hZ, hlo, hrm, htr⟩ := hC
  have h1 : (some (Sum.inl (pc + 1, ls, .float FP.fconst0 :: st, bc, bs, hp)) : Option Act) = some (Sum.inl (pc', ls', st', bc', bs', hp')) := h
  cases h1
  exact hk.go (fun r _ => ok_cs trivial (r)) (fun H locs lsr ad cells slots hL kk => lv_fconst0 hx hb hd kk)
theorem n_fconst2 (hC : Cx p l R s m meth c k lo D tA) (hd : decode (mB k) pc = .ok ((.fconst 2), 1)) (h : act k (.fconst 2) pc ls st bc bs hp = some (.inl (pc', ls', st', bc', bs', hp'))) (hk : Wg p l e R s m args below meth c Q D tA lo k ad0 n0 pc' ls' st' bc' bs' hp') : Wg p l e R s m args below meth c Q D tA lo k ad0 n0 pc ls st bc bs hp := by
  obtain ⟨⟨hx, hb, hown, hml⟩, ⟨hlk, hr, hmn, hxt⟩, hF, hZ, hlo, hrm, htr⟩ := hC
  have h1 : (some (Sum.inl (pc + 1, ls, .float FP.fconst2 :: st, bc, bs, hp)) : Option Act) = some (Sum.inl (pc', ls', st', bc', bs', hp')) := h
  cases h1
  exact hk.go (fun r _ => ok_cs trivial (r)) (fun H locs lsr ad cells slots hL kk => lv_fconst2 hx hb hd kk)
theorem n_dconst0 (hC : Cx p l R s m meth c k lo D tA) (hd : decode (mB k) pc = .ok ((.dconst 0), 1)) (h : act k (.dconst 0) pc ls st bc bs hp = some (.inl (pc', ls', st', bc', bs', hp'))) (hk : Wg p l e R s m args below meth c Q D tA lo k ad0 n0 pc' ls' st' bc' bs' hp') : Wg p l e R s m args below meth c Q D tA lo k ad0 n0 pc ls st bc bs hp := by
  obtain ⟨⟨hx, hb, hown, hml⟩, ⟨hlk, hr, hmn, hxt⟩, hF, hZ, hlo, hrm, htr⟩ := hC
  have h1 : (some (Sum.inl (pc + 1, ls, .double FP.dconst0 :: st, bc, bs, hp)) : Option Act) = some (Sum.inl (pc', ls', st', bc', bs', hp')) := h
  cases h1
  exact hk.go (fun r _ => ok_cs trivial (r)) (fun H locs lsr ad cells slots hL kk => lv_dconst0 hx hb hd kk)
theorem n_dconst1 (hC : Cx p l R s m meth c k lo D tA) (hd : decode (mB k) pc = .ok ((.dconst 1), 1)) (h : act k (.dconst 1) pc ls st bc bs hp = some (.inl (pc', ls', st', bc', bs', hp'))) (hk : Wg p l e R s m args below meth c Q D tA lo k ad0 n0 pc' ls' st' bc' bs' hp') : Wg p l e R s m args below meth c Q D tA lo k ad0 n0 pc ls st bc bs hp := by
  obtain ⟨⟨hx, hb, hown, hml⟩, ⟨hlk, hr, hmn, hxt⟩, hF, hZ, hlo, hrm, htr⟩ := hC
  have h1 : (some (Sum.inl (pc + 1, ls, .double FP.dconst1 :: st, bc, bs, hp)) : Option Act) = some (Sum.inl (pc', ls', st', bc', bs', hp')) := h
  cases h1
  exact hk.go (fun r _ => ok_cs trivial (r)) (fun H locs lsr ad cells slots hL kk => lv_dconst1 hx hb hd kk)
theorem n_iadd (hC : Cx p l R s m meth c k lo D tA) (hd : decode (mB k) pc = .ok (.iadd, 1)) (h : act k .iadd pc ls st bc bs hp = some (.inl (pc', ls', st', bc', bs', hp'))) (hk : Wg p l e R s m args below meth c Q D tA lo k ad0 n0 pc' ls' st' bc' bs' hp') : Wg p l e R s m args below meth c Q D tA lo k ad0 n0 pc ls st bc bs hp := by
  obtain ⟨⟨hx, hb, hown, hml⟩, ⟨hlk, hr, hmn, hxt⟩, hF, hZ, hlo, hrm, htr⟩ := hC
  cases st with
  | nil => exact nos h
  | cons v0 st =>
    cases v0 with
    | int y =>
      cases st with
      | nil => exact nos h
      | cons v1 st =>
        cases v1 with
        | int x =>
          have h1 : (some (Sum.inl (pc + 1, ls, .int (x + y) :: st, bc, bs, hp)) : Option Act) = some (Sum.inl (pc', ls', st', bc', bs', hp')) := h
          cases h1
          exact hk.go (fun r _ => ok_cs trivial (ok_tl (ok_tl r))) (fun H locs lsr ad cells slots hL kk => lv_iadd hx hb hd kk)
        | _ => exact nos h
    | _ => exact nos h
theorem n_isub (hC : Cx p l R s m meth c k lo D tA) (hd : decode (mB k) pc = .ok (.isub, 1)) (h : act k .isub pc ls st bc bs hp = some (.inl (pc', ls', st', bc', bs', hp'))) (hk : Wg p l e R s m args below meth c Q D tA lo k ad0 n0 pc' ls' st' bc' bs' hp') : Wg p l e R s m args below meth c Q D tA lo k ad0 n0 pc ls st bc bs hp := by
  obtain ⟨⟨hx, hb, hown, hml⟩, ⟨hlk, hr, hmn, hxt⟩, hF, hZ, hlo, hrm, htr⟩ := hC
  cases st with
  | nil => exact nos h
  | cons v0 st =>
    cases v0 with
    | int y =>
      cases st with
      | nil => exact nos h
      | cons v1 st =>
        cases v1 with
        | int x =>
          have h1 : (some (Sum.inl (pc + 1, ls, .int (x - y) :: st, bc, bs, hp)) : Option Act) = some (Sum.inl (pc', ls', st', bc', bs', hp')) := h
          cases h1
          exact hk.go (fun r _ => ok_cs trivial (ok_tl (ok_tl r))) (fun H locs lsr ad cells slots hL kk => lv_isub hx hb hd kk)
        | _ => exact nos h
    | _ => exact nos h
theorem n_imul (hC : Cx p l R s m meth c k lo D tA) (hd : decode (mB k) pc = .ok (.imul, 1)) (h : act k .imul pc ls st bc bs hp = some (.inl (pc', ls', st', bc', bs', hp'))) (hk : Wg p l e R s m args below meth c Q D tA lo k ad0 n0 pc' ls' st' bc' bs' hp') : Wg p l e R s m args below meth c Q D tA lo k ad0 n0 pc ls st bc bs hp := by
  obtain ⟨⟨hx, hb, hown, hml⟩, ⟨hlk, hr, hmn, hxt⟩, hF, hZ, hlo, hrm, htr⟩ := hC
  cases st with
  | nil => exact nos h
  | cons v0 st =>
    cases v0 with
    | int y =>
      cases st with
      | nil => exact nos h
      | cons v1 st =>
        cases v1 with
        | int x =>
          have h1 : (some (Sum.inl (pc + 1, ls, .int (x * y) :: st, bc, bs, hp)) : Option Act) = some (Sum.inl (pc', ls', st', bc', bs', hp')) := h
          cases h1
          exact hk.go (fun r _ => ok_cs trivial (ok_tl (ok_tl r))) (fun H locs lsr ad cells slots hL kk => lv_imul hx hb hd kk)
        | _ => exact nos h
    | _ => exact nos h
theorem n_iand (hC : Cx p l R s m meth c k lo D tA) (hd : decode (mB k) pc = .ok (.iand, 1)) (h : act k .iand pc ls st bc bs hp = some (.inl (pc', ls', st', bc', bs', hp'))) (hk : Wg p l e R s m args below meth c Q D tA lo k ad0 n0 pc' ls' st' bc' bs' hp') : Wg p l e R s m args below meth c Q D tA lo k ad0 n0 pc ls st bc bs hp := by
  obtain ⟨⟨hx, hb, hown, hml⟩, ⟨hlk, hr, hmn, hxt⟩, hF, hZ, hlo, hrm, htr⟩ := hC
  cases st with
  | nil => exact nos h
  | cons v0 st =>
    cases v0 with
    | int y =>
      cases st with
      | nil => exact nos h
      | cons v1 st =>
        cases v1 with
        | int x =>
          have h1 : (some (Sum.inl (pc + 1, ls, .int (x &&& y) :: st, bc, bs, hp)) : Option Act) = some (Sum.inl (pc', ls', st', bc', bs', hp')) := h
          cases h1
          exact hk.go (fun r _ => ok_cs trivial (ok_tl (ok_tl r))) (fun H locs lsr ad cells slots hL kk => lv_iand hx hb hd kk)
        | _ => exact nos h
    | _ => exact nos h
theorem n_ishl (hC : Cx p l R s m meth c k lo D tA) (hd : decode (mB k) pc = .ok (.ishl, 1)) (h : act k .ishl pc ls st bc bs hp = some (.inl (pc', ls', st', bc', bs', hp'))) (hk : Wg p l e R s m args below meth c Q D tA lo k ad0 n0 pc' ls' st' bc' bs' hp') : Wg p l e R s m args below meth c Q D tA lo k ad0 n0 pc ls st bc bs hp := by
  obtain ⟨⟨hx, hb, hown, hml⟩, ⟨hlk, hr, hmn, hxt⟩, hF, hZ, hlo, hrm, htr⟩ := hC
  cases st with
  | nil => exact nos h
  | cons v0 st =>
    cases v0 with
    | int y =>
      cases st with
      | nil => exact nos h
      | cons v1 st =>
        cases v1 with
        | int x =>
          have h1 : (some (Sum.inl (pc + 1, ls, .int (x <<< (y &&& 31)) :: st, bc, bs, hp)) : Option Act) = some (Sum.inl (pc', ls', st', bc', bs', hp')) := h
          cases h1
          exact hk.go (fun r _ => ok_cs trivial (ok_tl (ok_tl r))) (fun H locs lsr ad cells slots hL kk => lv_ishl hx hb hd kk)
        | _ => exact nos h
    | _ => exact nos h
theorem n_ineg (hC : Cx p l R s m meth c k lo D tA) (hd : decode (mB k) pc = .ok (.ineg, 1)) (h : act k .ineg pc ls st bc bs hp = some (.inl (pc', ls', st', bc', bs', hp'))) (hk : Wg p l e R s m args below meth c Q D tA lo k ad0 n0 pc' ls' st' bc' bs' hp') : Wg p l e R s m args below meth c Q D tA lo k ad0 n0 pc ls st bc bs hp := by
  obtain ⟨⟨hx, hb, hown, hml⟩, ⟨hlk, hr, hmn, hxt⟩, hF, hZ, hlo, hrm, htr⟩ := hC
  cases st with
  | nil => exact nos h
  | cons v0 st =>
    cases v0 with
    | int x =>
      have h1 : (some (Sum.inl (pc + 1, ls, .int (-x) :: st, bc, bs, hp)) : Option Act) = some (Sum.inl (pc', ls', st', bc', bs', hp')) := h
      cases h1
      exact hk.go (fun r _ => ok_cs trivial (ok_tl r)) (fun H locs lsr ad cells slots hL kk => lv_ineg hx hb hd kk)
    | _ => exact nos h
theorem n_ladd (hC : Cx p l R s m meth c k lo D tA) (hd : decode (mB k) pc = .ok (.ladd, 1)) (h : act k .ladd pc ls st bc bs hp = some (.inl (pc', ls', st', bc', bs', hp'))) (hk : Wg p l e R s m args below meth c Q D tA lo k ad0 n0 pc' ls' st' bc' bs' hp') : Wg p l e R s m args below meth c Q D tA lo k ad0 n0 pc ls st bc bs hp := by
  obtain ⟨⟨hx, hb, hown, hml⟩, ⟨hlk, hr, hmn, hxt⟩, hF, hZ, hlo, hrm, htr⟩ := hC
  cases st with
  | nil => exact nos h
  | cons v0 st =>
    cases v0 with
    | long y =>
      cases st with
      | nil => exact nos h
      | cons v1 st =>
        cases v1 with
        | long x =>
          have h1 : (some (Sum.inl (pc + 1, ls, .long (x + y) :: st, bc, bs, hp)) : Option Act) = some (Sum.inl (pc', ls', st', bc', bs', hp')) := h
          cases h1
          exact hk.go (fun r _ => ok_cs trivial (ok_tl (ok_tl r))) (fun H locs lsr ad cells slots hL kk => lv_ladd hx hb hd kk)
        | _ => exact nos h
    | _ => exact nos h
theorem n_lcmp (hC : Cx p l R s m meth c k lo D tA) (hd : decode (mB k) pc = .ok (.lcmp, 1)) (h : act k .lcmp pc ls st bc bs hp = some (.inl (pc', ls', st', bc', bs', hp'))) (hk : Wg p l e R s m args below meth c Q D tA lo k ad0 n0 pc' ls' st' bc' bs' hp') : Wg p l e R s m args below meth c Q D tA lo k ad0 n0 pc ls st bc bs hp := by
  obtain ⟨⟨hx, hb, hown, hml⟩, ⟨hlk, hr, hmn, hxt⟩, hF, hZ, hlo, hrm, htr⟩ := hC
  cases st with
  | nil => exact nos h
  | cons v0 st =>
    cases v0 with
    | long y =>
      cases st with
      | nil => exact nos h
      | cons v1 st =>
        cases v1 with
        | long x =>
          have h1 : (some (Sum.inl (pc + 1, ls, .int (lg_cmp x y) :: st, bc, bs, hp)) : Option Act) = some (Sum.inl (pc', ls', st', bc', bs', hp')) := h
          cases h1
          exact hk.go (fun r _ => ok_cs trivial (ok_tl (ok_tl r))) (fun H locs lsr ad cells slots hL kk => W.lcmp hx hb hd kk)
        | _ => exact nos h
    | _ => exact nos h
theorem n_i2l (hC : Cx p l R s m meth c k lo D tA) (hd : decode (mB k) pc = .ok (.i2l, 1)) (h : act k .i2l pc ls st bc bs hp = some (.inl (pc', ls', st', bc', bs', hp'))) (hk : Wg p l e R s m args below meth c Q D tA lo k ad0 n0 pc' ls' st' bc' bs' hp') : Wg p l e R s m args below meth c Q D tA lo k ad0 n0 pc ls st bc bs hp := by
  obtain ⟨⟨hx, hb, hown, hml⟩, ⟨hlk, hr, hmn, hxt⟩, hF, hZ, hlo, hrm, htr⟩ := hC
  cases st with
  | nil => exact nos h
  | cons v0 st =>
    cases v0 with
    | int x =>
      have h1 : (some (Sum.inl (pc + 1, ls, .long x.toInt64 :: st, bc, bs, hp)) : Option Act) = some (Sum.inl (pc', ls', st', bc', bs', hp')) := h
      cases h1
      exact hk.go (fun r _ => ok_cs trivial (ok_tl r)) (fun H locs lsr ad cells slots hL kk => lv_i2l hx hb hd rfl kk)
    | _ => exact nos h
theorem n_i2c (hC : Cx p l R s m meth c k lo D tA) (hd : decode (mB k) pc = .ok (.i2c, 1)) (h : act k .i2c pc ls st bc bs hp = some (.inl (pc', ls', st', bc', bs', hp'))) (hk : Wg p l e R s m args below meth c Q D tA lo k ad0 n0 pc' ls' st' bc' bs' hp') : Wg p l e R s m args below meth c Q D tA lo k ad0 n0 pc ls st bc bs hp := by
  obtain ⟨⟨hx, hb, hown, hml⟩, ⟨hlk, hr, hmn, hxt⟩, hF, hZ, hlo, hrm, htr⟩ := hC
  cases st with
  | nil => exact nos h
  | cons v0 st =>
    cases v0 with
    | int x =>
      have h1 : (some (Sum.inl (pc + 1, ls, .int (x.toUInt32 % 65536).toInt32 :: st, bc, bs, hp)) : Option Act) = some (Sum.inl (pc', ls', st', bc', bs', hp')) := h
      cases h1
      exact hk.go (fun r _ => ok_cs trivial (ok_tl r)) (fun H locs lsr ad cells slots hL kk => lv_i2c hx hb hd rfl kk)
    | _ => exact nos h
theorem n_i2f (hC : Cx p l R s m meth c k lo D tA) (hd : decode (mB k) pc = .ok (.i2f, 1)) (h : act k .i2f pc ls st bc bs hp = some (.inl (pc', ls', st', bc', bs', hp'))) (hk : Wg p l e R s m args below meth c Q D tA lo k ad0 n0 pc' ls' st' bc' bs' hp') : Wg p l e R s m args below meth c Q D tA lo k ad0 n0 pc ls st bc bs hp := by
  obtain ⟨⟨hx, hb, hown, hml⟩, ⟨hlk, hr, hmn, hxt⟩, hF, hZ, hlo, hrm, htr⟩ := hC
  cases st with
  | nil => exact nos h
  | cons v0 st =>
    cases v0 with
    | int x =>
      have h1 : (some (Sum.inl (pc + 1, ls, .float (FP.i2f x) :: st, bc, bs, hp)) : Option Act) = some (Sum.inl (pc', ls', st', bc', bs', hp')) := h
      cases h1
      exact hk.go (fun r _ => ok_cs trivial (ok_tl r)) (fun H locs lsr ad cells slots hL kk => lv_i2f hx hb hd kk)
    | _ => exact nos h
theorem n_i2d (hC : Cx p l R s m meth c k lo D tA) (hd : decode (mB k) pc = .ok (.i2d, 1)) (h : act k .i2d pc ls st bc bs hp = some (.inl (pc', ls', st', bc', bs', hp'))) (hk : Wg p l e R s m args below meth c Q D tA lo k ad0 n0 pc' ls' st' bc' bs' hp') : Wg p l e R s m args below meth c Q D tA lo k ad0 n0 pc ls st bc bs hp := by
  obtain ⟨⟨hx, hb, hown, hml⟩, ⟨hlk, hr, hmn, hxt⟩, hF, hZ, hlo, hrm, htr⟩ := hC
  cases st with
  | nil => exact nos h
  | cons v0 st =>
    cases v0 with
    | int x =>
      have h1 : (some (Sum.inl (pc + 1, ls, .double (FP.i2d x) :: st, bc, bs, hp)) : Option Act) = some (Sum.inl (pc', ls', st', bc', bs', hp')) := h
      cases h1
      exact hk.go (fun r _ => ok_cs trivial (ok_tl r)) (fun H locs lsr ad cells slots hL kk => lv_i2d hx hb hd kk)
    | _ => exact nos h
theorem n_f2i (hC : Cx p l R s m meth c k lo D tA) (hd : decode (mB k) pc = .ok (.f2i, 1)) (h : act k .f2i pc ls st bc bs hp = some (.inl (pc', ls', st', bc', bs', hp'))) (hk : Wg p l e R s m args below meth c Q D tA lo k ad0 n0 pc' ls' st' bc' bs' hp') : Wg p l e R s m args below meth c Q D tA lo k ad0 n0 pc ls st bc bs hp := by
  obtain ⟨⟨hx, hb, hown, hml⟩, ⟨hlk, hr, hmn, hxt⟩, hF, hZ, hlo, hrm, htr⟩ := hC
  cases st with
  | nil => exact nos h
  | cons v0 st =>
    cases v0 with
    | float x =>
      have h1 : (some (Sum.inl (pc + 1, ls, .int (FP.f2i x) :: st, bc, bs, hp)) : Option Act) = some (Sum.inl (pc', ls', st', bc', bs', hp')) := h
      cases h1
      exact hk.go (fun r _ => ok_cs trivial (ok_tl r)) (fun H locs lsr ad cells slots hL kk => lv_f2i hx hb hd kk)
    | _ => exact nos h
theorem n_d2i (hC : Cx p l R s m meth c k lo D tA) (hd : decode (mB k) pc = .ok (.d2i, 1)) (h : act k .d2i pc ls st bc bs hp = some (.inl (pc', ls', st', bc', bs', hp'))) (hk : Wg p l e R s m args below meth c Q D tA lo k ad0 n0 pc' ls' st' bc' bs' hp') : Wg p l e R s m args below meth c Q D tA lo k ad0 n0 pc ls st bc bs hp := by
  obtain ⟨⟨hx, hb, hown, hml⟩, ⟨hlk, hr, hmn, hxt⟩, hF, hZ, hlo, hrm, htr⟩ := hC
  cases st with
  | nil => exact nos h
  | cons v0 st =>
    cases v0 with
    | double x =>
      have h1 : (some (Sum.inl (pc + 1, ls, .int (FP.d2i x) :: st, bc, bs, hp)) : Option Act) = some (Sum.inl (pc', ls', st', bc', bs', hp')) := h
      cases h1
      exact hk.go (fun r _ => ok_cs trivial (ok_tl r)) (fun H locs lsr ad cells slots hL kk => lv_d2i hx hb hd kk)
    | _ => exact nos h
theorem n_fcmp {o : CmpOp} (hC : Cx p l R s m meth c k lo D tA) (hd : decode (mB k) pc = .ok ((.fcmp o), 1)) (h : act k (.fcmp o) pc ls st bc bs hp = some (.inl (pc', ls', st', bc', bs', hp'))) (hk : Wg p l e R s m args below meth c Q D tA lo k ad0 n0 pc' ls' st' bc' bs' hp') : Wg p l e R s m args below meth c Q D tA lo k ad0 n0 pc ls st bc bs hp := by
  obtain ⟨⟨hx, hb, hown, hml⟩, ⟨hlk, hr, hmn, hxt⟩, hF, hZ, hlo, hrm, htr⟩ := hC
  cases st with
  | nil => exact nos h
  | cons v0 st =>
    cases v0 with
    | float y =>
      cases st with
      | nil => exact nos h
      | cons v1 st =>
        cases v1 with
        | float x =>
          have h1 : (some (Sum.inl (pc + 1, ls, .int (Op.cmpValue (FP.fcmp x y) o) :: st, bc, bs, hp)) : Option Act) = some (Sum.inl (pc', ls', st', bc', bs', hp')) := h
          cases h1
          exact hk.go (fun r _ => ok_cs trivial (ok_tl (ok_tl r))) (fun H locs lsr ad cells slots hL kk => lv_fcmp hx hb hd kk)
        | _ => exact nos h
    | _ => exact nos h
theorem n_dcmp {o : CmpOp} (hC : Cx p l R s m meth c k lo D tA) (hd : decode (mB k) pc = .ok ((.dcmp o), 1)) (h : act k (.dcmp o) pc ls st bc bs hp = some (.inl (pc', ls', st', bc', bs', hp'))) (hk : Wg p l e R s m args below meth c Q D tA lo k ad0 n0 pc' ls' st' bc' bs' hp') : Wg p l e R s m args below meth c Q D tA lo k ad0 n0 pc ls st bc bs hp := by
  obtain ⟨⟨hx, hb, hown, hml⟩, ⟨hlk, hr, hmn, hxt⟩, hF, hZ, hlo, hrm, htr⟩ := hC
  cases st with
  | nil => exact nos h
  | cons v0 st =>
    cases v0 with
    | double y =>
      cases st with
      | nil => exact nos h
      | cons v1 st =>
        cases v1 with
        | double x =>
          have h1 : (some (Sum.inl (pc + 1, ls, .int (Op.cmpValue (FP.dcmp x y) o) :: st, bc, bs, hp)) : Option Act) = some (Sum.inl (pc', ls', st', bc', bs', hp')) := h
          cases h1
          exact hk.go (fun r _ => ok_cs trivial (ok_tl (ok_tl r))) (fun H locs lsr ad cells slots hL kk => lv_dcmp hx hb hd kk)
        | _ => exact nos h
    | _ => exact nos h
theorem n_idiv (hC : Cx p l R s m meth c k lo D tA) (hd : decode (mB k) pc = .ok (.idiv, 1)) (h : act k .idiv pc ls st bc bs hp = some (.inl (pc', ls', st', bc', bs', hp'))) (hk : Wg p l e R s m args below meth c Q D tA lo k ad0 n0 pc' ls' st' bc' bs' hp') : Wg p l e R s m args below meth c Q D tA lo k ad0 n0 pc ls st bc bs hp := by
  obtain ⟨⟨hx, hb, hown, hml⟩, ⟨hlk, hr, hmn, hxt⟩, hF, hZ, hlo, hrm, htr⟩ := hC
  cases st with
  | nil => exact nos h
  | cons v0 st =>
    cases v0 with
    | int y =>
      cases st with
      | nil => exact nos h
      | cons v1 st =>
        cases v1 with
        | int x =>
          have h0 : (if y = 0 then none else nx (pc + 1) ls (.int (x / y) :: st) bc bs hp) = some (Sum.inl (pc', ls', st', bc', bs', hp')) := h
          by_cases hc : y = 0
          · rw [if_pos hc] at h0
            exact nos h0
          · have h1 : (some (Sum.inl (pc + 1, ls, .int (x / y) :: st, bc, bs, hp)) : Option Act) = some (Sum.inl (pc', ls', st', bc', bs', hp')) := by rw [if_neg hc] at h0; exact h0
            cases h1
            exact hk.go (fun r _ => ok_cs trivial (ok_tl (ok_tl r))) (fun H locs lsr ad cells slots hL kk => lv_idiv hx hb hd hc kk)
        | _ => exact nos h
    | _ => exact nos h
theorem n_irem (hC : Cx p l R s m meth c k lo D tA) (hd : decode (mB k) pc = .ok (.irem, 1)) (h : act k .irem pc ls st bc bs hp = some (.inl (pc', ls', st', bc', bs', hp'))) (hk : Wg p l e R s m args below meth c Q D tA lo k ad0 n0 pc' ls' st' bc' bs' hp') : Wg p l e R s m args below meth c Q D tA lo k ad0 n0 pc ls st bc bs hp := by
  obtain ⟨⟨hx, hb, hown, hml⟩, ⟨hlk, hr, hmn, hxt⟩, hF, hZ, hlo, hrm, htr⟩ := hC
  cases st with
  | nil => exact nos h
  | cons v0 st =>
    cases v0 with
    | int y =>
      cases st with
      | nil => exact nos h
      | cons v1 st =>
        cases v1 with
        | int x =>
          have h0 : (if y = 0 then none else nx (pc + 1) ls (.int (x - x / y * y) :: st) bc bs hp) = some (Sum.inl (pc', ls', st', bc', bs', hp')) := h
          by_cases hc : y = 0
          · rw [if_pos hc] at h0
            exact nos h0
          · have h1 : (some (Sum.inl (pc + 1, ls, .int (x - x / y * y) :: st, bc, bs, hp)) : Option Act) = some (Sum.inl (pc', ls', st', bc', bs', hp')) := by rw [if_neg hc] at h0; exact h0
            cases h1
            exact hk.go (fun r _ => ok_cs trivial (ok_tl (ok_tl r))) (fun H locs lsr ad cells slots hL kk => lv_irem hx hb hd hc kk)
        | _ => exact nos h
    | _ => exact nos h
theorem n_f2d (hC : Cx p l R s m meth c k lo D tA) (hd : decode (mB k) pc = .ok (.f2d, 1)) (h : act k .f2d pc ls st bc bs hp = some (.inl (pc', ls', st', bc', bs', hp'))) (hk : Wg p l e R s m args below meth c Q D tA lo k ad0 n0 pc' ls' st' bc' bs' hp') : Wg p l e R s m args below meth c Q D tA lo k ad0 n0 pc ls st bc bs hp := by
  obtain ⟨⟨hx, hb, hown, hml⟩, ⟨hlk, hr, hmn, hxt⟩, hF, hZ, hlo, hrm, htr⟩ := hC
  cases st with
  | nil => exact nos h
  | cons v0 st =>
    cases v0 with
    | float x =>
      have h0 : (if nn64 (FP.f2d x) = true then nx (pc + 1) ls (.double (FP.f2d x) :: st) bc bs hp else none) = some (Sum.inl (pc', ls', st', bc', bs', hp')) := h
      by_cases hc : nn64 (FP.f2d x) = true
      · have h1 : (some (Sum.inl (pc + 1, ls, .double (FP.f2d x) :: st, bc, bs, hp)) : Option Act) = some (Sum.inl (pc', ls', st', bc', bs', hp')) := by rw [if_pos hc] at h0; exact h0
        cases h1
        exact hk.go (fun r _ => ok_cs trivial (ok_tl r)) (fun H locs lsr ad cells slots hL kk => lv_f2d hx hb hd (nn64_of hc) kk)
      · rw [if_neg hc] at h0
        exact nos h0
    | _ => exact nos h
theorem n_fadd (hC : Cx p l R s m meth c k lo D tA) (hd : decode (mB k) pc = .ok (.fadd, 1)) (h : act k .fadd pc ls st bc bs hp = some (.inl (pc', ls', st', bc', bs', hp'))) (hk : Wg p l e R s m args below meth c Q D tA lo k ad0 n0 pc' ls' st' bc' bs' hp') : Wg p l e R s m args below meth c Q D tA lo k ad0 n0 pc ls st bc bs hp := by
  obtain ⟨⟨hx, hb, hown, hml⟩, ⟨hlk, hr, hmn, hxt⟩, hF, hZ, hlo, hrm, htr⟩ := hC
  cases st with
  | nil => exact nos h
  | cons v0 st =>
    cases v0 with
    | float y =>
      cases st with
      | nil => exact nos h
      | cons v1 st =>
        cases v1 with
        | float x =>
          have h0 : (if nn32 (FP.fadd x y) = true then nx (pc + 1) ls (.float (FP.fadd x y) :: st) bc bs hp else none) = some (Sum.inl (pc', ls', st', bc', bs', hp')) := h
          by_cases hc : nn32 (FP.fadd x y) = true
          · have h1 : (some (Sum.inl (pc + 1, ls, .float (FP.fadd x y) :: st, bc, bs, hp)) : Option Act) = some (Sum.inl (pc', ls', st', bc', bs', hp')) := by rw [if_pos hc] at h0; exact h0
            cases h1
            exact hk.go (fun r _ => ok_cs trivial (ok_tl (ok_tl r))) (fun H locs lsr ad cells slots hL kk => lv_fadd hx hb hd (nn32_of hc) kk)
          · rw [if_neg hc] at h0
            exact nos h0
        | _ => exact nos h
    | _ => exact nos h
theorem n_fsub (hC : Cx p l R s m meth c k lo D tA) (hd : decode (mB k) pc = .ok (.fsub, 1)) (h : act k .fsub pc ls st bc bs hp = some (.inl (pc', ls', st', bc', bs', hp'))) (hk : Wg p l e R s m args below meth c Q D tA lo k ad0 n0 pc' ls' st' bc' bs' hp') : Wg p l e R s m args below meth c Q D tA lo k ad0 n0 pc ls st bc bs hp := by
  obtain ⟨⟨hx, hb, hown, hml⟩, ⟨hlk, hr, hmn, hxt⟩, hF, hZ, hlo, hrm, htr⟩ := hC
  cases st with
  | nil => exact nos h
  | cons v0 st =>
    cases v0 with
    | float y =>
      cases st with
      | nil => exact nos h
      | cons v1 st =>
        cases v1 with
        | float x =>
          have h0 : (if nn32 (FP.fsub x y) = true then nx (pc + 1) ls (.float (FP.fsub x y) :: st) bc bs hp else none) = some (Sum.inl (pc', ls', st', bc', bs', hp')) := h
          by_cases hc : nn32 (FP.fsub x y) = true
          · have h1 : (some (Sum.inl (pc + 1, ls, .float (FP.fsub x y) :: st, bc, bs, hp)) : Option Act) = some (Sum.inl (pc', ls', st', bc', bs', hp')) := by rw [if_pos hc] at h0; exact h0
            cases h1
            exact hk.go (fun r _ => ok_cs trivial (ok_tl (ok_tl r))) (fun H locs lsr ad cells slots hL kk => lv_fsub hx hb hd (nn32_of hc) kk)
          · rw [if_neg hc] at h0
            exact nos h0
        | _ => exact nos h
    | _ => exact nos h
theorem n_fmul (hC : Cx p l R s m meth c k lo D tA) (hd : decode (mB k) pc = .ok (.fmul, 1)) (h : act k .fmul pc ls st bc bs hp = some (.inl (pc', ls', st', bc', bs', hp'))) (hk : Wg p l e R s m args below meth c Q D tA lo k ad0 n0 pc' ls' st' bc' bs' hp') : Wg p l e R s m args below meth c Q D tA lo k ad0 n0 pc ls st bc bs hp := by
  obtain ⟨⟨hx, hb, hown, hml⟩, ⟨hlk, hr, hmn, hxt⟩, hF, hZ, hlo, hrm, htr⟩ := hC
  cases st with
  | nil => exact nos h
  | cons v0 st =>
    cases v0 with
    | float y =>
      cases st with
      | nil => exact nos h
      | cons v1 st =>
        cases v1 with
        | float x =>
          have h0 : (if nn32 (FP.fmul x y) = true then nx (pc + 1) ls (.float (FP.fmul x y) :: st) bc bs hp else none) = some (Sum.inl (pc', ls', st', bc', bs', hp')) := h
          by_cases hc : nn32 (FP.fmul x y) = true
          · have h1 : (some (Sum.inl (pc + 1, ls, .float (FP.fmul x y) :: st, bc, bs, hp)) : Option Act) = some (Sum.inl (pc', ls', st', bc', bs', hp')) := by rw [if_pos hc] at h0; exact h0
            cases h1
            exact hk.go (fun r _ => ok_cs trivial (ok_tl (ok_tl r))) (fun H locs lsr ad cells slots hL kk => lv_fmul hx hb hd (nn32_of hc) kk)
          · rw [if_neg hc] at h0
            exact nos h0
        | _ => exact nos h
    | _ => exact nos h
theorem n_fdiv (hC : Cx p l R s m meth c k lo D tA) (hd : decode (mB k) pc = .ok (.fdiv, 1)) (h : act k .fdiv pc ls st bc bs hp = some (.inl (pc', ls', st', bc', bs', hp'))) (hk : Wg p l e R s m args below meth c Q D tA lo k ad0 n0 pc' ls' st' bc' bs' hp') : Wg p l e R s m args below meth c Q D tA lo k ad0 n0 pc ls st bc bs hp := by
  obtain ⟨⟨hx, hb, hown, hml⟩, ⟨hlk, hr, hmn, hxt⟩, hF, hZ, hlo, hrm, htr⟩ := hC
  cases st with
  | nil => exact nos h
  | cons v0 st =>
    cases v0 with
    | float y =>
      cases st with
      | nil => exact nos h
      | cons v1 st =>
        cases v1 with
        | float x =>
          have h0 : (if nn32 (FP.fdiv x y) = true then nx (pc + 1) ls (.float (FP.fdiv x y) :: st) bc bs hp else none) = some (Sum.inl (pc', ls', st', bc', bs', hp')) := h
          by_cases hc : nn32 (FP.fdiv x y) = true
          · have h1 : (some (Sum.inl (pc + 1, ls, .float (FP.fdiv x y) :: st, bc, bs, hp)) : Option Act) = some (Sum.inl (pc', ls', st', bc', bs', hp')) := by rw [if_pos hc] at h0; exact h0
            cases h1
            exact hk.go (fun r _ => ok_cs trivial (ok_tl (ok_tl r))) (fun H locs lsr ad cells slots hL kk => lv_fdiv hx hb hd (nn32_of hc) kk)
          · rw [if_neg hc] at h0
            exact nos h0
        | _ => exact nos h
    | _ => exact nos h
theorem n_dmul (hC : Cx p l R s m meth c k lo D tA) (hd : decode (mB k) pc = .ok (.dmul, 1)) (h : act k .dmul pc ls st bc bs hp = some (.inl (pc', ls', st', bc', bs', hp'))) (hk : Wg p l e R s m args below meth c Q D tA lo k ad0 n0 pc' ls' st' bc' bs' hp') : Wg p l e R s m args below meth c Q D tA lo k ad0 n0 pc ls st bc bs hp := by
  obtain ⟨⟨hx, hb, hown, hml⟩, ⟨hlk, hr, hmn, hxt⟩, hF, hZ, hlo, hrm, htr⟩ := hC
  cases st with
  | nil => exact nos h
  | cons v0 st =>
    cases v0 with
    | double y =>
      cases st with
      | nil => exact nos h
      | cons v1 st =>
        cases v1 with
        | double x =>
          have h0 : (if nn64 (FP.dmul x y) = true then nx (pc + 1) ls (.double (FP.dmul x y) :: st) bc bs hp else none) = some (Sum.inl (pc', ls', st', bc', bs', hp')) := h
          by_cases hc : nn64 (FP.dmul x y) = true
          · have h1 : (some (Sum.inl (pc + 1, ls, .double (FP.dmul x y) :: st, bc, bs, hp)) : Option Act) = some (Sum.inl (pc', ls', st', bc', bs', hp')) := by rw [if_pos hc] at h0; exact h0
            cases h1
            exact hk.go (fun r _ => ok_cs trivial (ok_tl (ok_tl r))) (fun H locs lsr ad cells slots hL kk => lv_dmul hx hb hd (nn64_of hc) kk)
          · rw [if_neg hc] at h0
            exact nos h0
        | _ => exact nos h
    | _ => exact nos h
theorem n_ddiv (hC : Cx p l R s m meth c k lo D tA) (hd : decode (mB k) pc = .ok (.ddiv, 1)) (h : act k .ddiv pc ls st bc bs hp = some (.inl (pc', ls', st', bc', bs', hp'))) (hk : Wg p l e R s m args below meth c Q D tA lo k ad0 n0 pc' ls' st' bc' bs' hp') : Wg p l e R s m args below meth c Q D tA lo k ad0 n0 pc ls st bc bs hp := by
  obtain ⟨⟨hx, hb, hown, hml⟩, ⟨hlk, hr, hmn, hxt⟩, hF, hZ, hlo, hrm, htr⟩ := hC
  cases st with
  | nil => exact nos h
  | cons v0 st =>
    cases v0 with
    | double y =>
      cases st with
      | nil => exact nos h
      | cons v1 st =>
        cases v1 with
        | double x =>
          have h0 : (if nn64 (FP.ddiv x y) = true then nx (pc + 1) ls (.double (FP.ddiv x y) :: st) bc bs hp else none) = some (Sum.inl (pc', ls', st', bc', bs', hp')) := h
          by_cases hc : nn64 (FP.ddiv x y) = true
          · have h1 : (some (Sum.inl (pc + 1, ls, .double (FP.ddiv x y) :: st, bc, bs, hp)) : Option Act) = some (Sum.inl (pc', ls', st', bc', bs', hp')) := by rw [if_pos hc] at h0; exact h0
            cases h1
            exact hk.go (fun r _ => ok_cs trivial (ok_tl (ok_tl r))) (fun H locs lsr ad cells slots hL kk => lv_ddiv hx hb hd (nn64_of hc) kk)
          · rw [if_neg hc] at h0
            exact nos h0
        | _ => exact nos h
    | _ => exact nos h
theorem n_aload_n {j : Fin 4} (hC : Cx p l R s m meth c k lo D tA) (hd : decode (mB k) pc = .ok ((.aload_n j), 1)) (h : act k (.aload_n j) pc ls st bc bs hp = some (.inl (pc', ls', st', bc', bs', hp'))) (hk : Wg p l e R s m args below meth c Q D tA lo k ad0 n0 pc' ls' st' bc' bs' hp') : Wg p l e R s m args below meth c Q D tA lo k ad0 n0 pc ls st bc bs hp := by
  obtain ⟨⟨hx, hb, hown, hml⟩, ⟨hlk, hr, hmn, hxt⟩, hF, hZ, hlo, hrm, htr⟩ := hC
  cases hl : ls[(j : Nat)]? with
  | none => simp only [act, hl] at h; exact nos h
  | some v =>
    cases v with
    | ref a =>
      have h1 : (some (Sum.inl (pc + 1, ls, .ref a :: st, bc, bs, hp)) : Option Act) = some (Sum.inl (pc', ls', st', bc', bs', hp')) := by simp only [act, hl] at h; exact h
      cases h1
      exact hk.go (fun r r2 => ok_cs (r2 _ (List.mem_of_getElem? hl)) r) (fun H locs lsr ad cells slots hL kk => lv_aload_n hx hb hd rfl (hL.at hl (fun q => by cases q)) kk)
    | _ => simp only [act, hl] at h; exact nos h
theorem n_aload {j : Nat} (hC : Cx p l R s m meth c k lo D tA) (hd : decode (mB k) pc = .ok ((.aload j), 2)) (h : act k (.aload j) pc ls st bc bs hp = some (.inl (pc', ls', st', bc', bs', hp'))) (hk : Wg p l e R s m args below meth c Q D tA lo k ad0 n0 pc' ls' st' bc' bs' hp') : Wg p l e R s m args below meth c Q D tA lo k ad0 n0 pc ls st bc bs hp := by
  obtain ⟨⟨hx, hb, hown, hml⟩, ⟨hlk, hr, hmn, hxt⟩, hF, hZ, hlo, hrm, htr⟩ := hC
  cases hl : ls[j]? with
  | none => simp only [act, hl] at h; exact nos h
  | some v =>
    cases v with
    | ref a =>
      have h1 : (some (Sum.inl (pc + 2, ls, .ref a :: st, bc, bs, hp)) : Option Act) = some (Sum.inl (pc', ls', st', bc', bs', hp')) := by simp only [act, hl] at h; exact h
      cases h1
      exact hk.go (fun r r2 => ok_cs (r2 _ (List.mem_of_getElem? hl)) r) (fun H locs lsr ad cells slots hL kk => lv_aload hx hb hd (hL.at hl (fun q => by cases q)) kk)
    | _ => simp only [act, hl] at h; exact nos h
theorem n_iload_n {j : Fin 4} (hC : Cx p l R s m meth c k lo D tA) (hd : decode (mB k) pc = .ok ((.iload_n j), 1)) (h : act k (.iload_n j) pc ls st bc bs hp = some (.inl (pc', ls', st', bc', bs', hp'))) (hk : Wg p l e R s m args below meth c Q D tA lo k ad0 n0 pc' ls' st' bc' bs' hp') : Wg p l e R s m args below meth c Q D tA lo k ad0 n0 pc ls st bc bs hp := by
  obtain ⟨⟨hx, hb, hown, hml⟩, ⟨hlk, hr, hmn, hxt⟩, hF, hZ, hlo, hrm, htr⟩ := hC
  cases hl : ls[(j : Nat)]? with
  | none => simp only [act, hl] at h; exact nos h
  | some v =>
    cases v with
    | int a =>
      have h1 : (some (Sum.inl (pc + 1, ls, .int a :: st, bc, bs, hp)) : Option Act) = some (Sum.inl (pc', ls', st', bc', bs', hp')) := by simp only [act, hl] at h; exact h
      cases h1
      exact hk.go (fun r r2 => ok_cs (trivial) r) (fun H locs lsr ad cells slots hL kk => lv_iload_n hx hb hd rfl (hL.at hl (fun q => by cases q)) kk)
    | _ => simp only [act, hl] at h; exact nos h
theorem n_iload {j : Nat} (hC : Cx p l R s m meth c k lo D tA) (hd : decode (mB k) pc = .ok ((.iload j), 2)) (h : act k (.iload j) pc ls st bc bs hp = some (.inl (pc', ls', st', bc', bs', hp'))) (hk : Wg p l e R s m args below meth c Q D tA lo k ad0 n0 pc' ls' st' bc' bs' hp') : Wg p l e R s m args below meth c Q D tA lo k ad0 n0 pc ls st bc bs hp := by
  obtain ⟨⟨hx, hb, hown, hml⟩, ⟨hlk, hr, hmn, hxt⟩, hF, hZ, hlo, hrm, htr⟩ := hC
  cases hl : ls[j]? with
  | none => simp only [act, hl] at h; exact nos h
  | some v =>
    cases v with
    | int a =>
      have h1 : (some (Sum.inl (pc + 2, ls, .int a :: st, bc, bs, hp)) : Option Act) = some (Sum.inl (pc', ls', st', bc', bs', hp')) := by simp only [act, hl] at h; exact h
      cases h1
      exact hk.go (fun r r2 => ok_cs (trivial) r) (fun H locs lsr ad cells slots hL kk => lv_iload hx hb hd (hL.at hl (fun q => by cases q)) kk)
    | _ => simp only [act, hl] at h; exact nos h
theorem n_fload_n {j : Fin 4} (hC : Cx p l R s m meth c k lo D tA) (hd : decode (mB k) pc = .ok ((.fload_n j), 1)) (h : act k (.fload_n j) pc ls st bc bs hp = some (.inl (pc', ls', st', bc', bs', hp'))) (hk : Wg p l e R s m args below meth c Q D tA lo k ad0 n0 pc' ls' st' bc' bs' hp') : Wg p l e R s m args below meth c Q D tA lo k ad0 n0 pc ls st bc bs hp := by
  obtain ⟨⟨hx, hb, hown, hml⟩, ⟨hlk, hr, hmn, hxt⟩, hF, hZ, hlo, hrm, htr⟩ := hC
  cases hl : ls[(j : Nat)]? with
  | none => simp only [act, hl] at h; exact nos h
  | some v =>
    cases v with
    | float a =>
      have h1 : (some (Sum.inl (pc + 1, ls, .float a :: st, bc, bs, hp)) : Option Act) = some (Sum.inl (pc', ls', st', bc', bs', hp')) := by simp only [act, hl] at h; exact h
      cases h1
      exact hk.go (fun r r2 => ok_cs (trivial) r) (fun H locs lsr ad cells slots hL kk => lv_fload_n hx hb hd rfl (hL.at hl (fun q => by cases q)) kk)
    | _ => simp only [act, hl] at h; exact nos h
theorem n_fload {j : Nat} (hC : Cx p l R s m meth c k lo D tA) (hd : decode (mB k) pc = .ok ((.fload j), 2)) (h : act k (.fload j) pc ls st bc bs hp = some (.inl (pc', ls', st', bc', bs', hp'))) (hk : Wg p l e R s m args below meth c Q D tA lo k ad0 n0 pc' ls' st' bc' bs' hp') : Wg p l e R s m args below meth c Q D tA lo k ad0 n0 pc ls st bc bs hp := by
  obtain ⟨⟨hx, hb, hown, hml⟩, ⟨hlk, hr, hmn, hxt⟩, hF, hZ, hlo, hrm, htr⟩ := hC
  cases hl : ls[j]? with
  | none => simp only [act, hl] at h; exact nos h
  | some v =>
    cases v with
    | float a =>
      have h1 : (some (Sum.inl (pc + 2, ls, .float a :: st, bc, bs, hp)) : Option Act) = some (Sum.inl (pc', ls', st', bc', bs', hp')) := by simp only [act, hl] at h; exact h
      cases h1
      exact hk.go (fun r r2 => ok_cs (trivial) r) (fun H locs lsr ad cells slots hL kk => lv_fload hx hb hd (hL.at hl (fun q => by cases q)) kk)
    | _ => simp only [act, hl] at h; exact nos h
theorem n_dload_n {j : Fin 4} (hC : Cx p l R s m meth c k lo D tA) (hd : decode (mB k) pc = .ok ((.dload_n j), 1)) (h : act k (.dload_n j) pc ls st bc bs hp = some (.inl (pc', ls', st', bc', bs', hp'))) (hk : Wg p l e R s m args below meth c Q D tA lo k ad0 n0 pc' ls' st' bc' bs' hp') : Wg p l e R s m args below meth c Q D tA lo k ad0 n0 pc ls st bc bs hp := by
  obtain ⟨⟨hx, hb, hown, hml⟩, ⟨hlk, hr, hmn, hxt⟩, hF, hZ, hlo, hrm, htr⟩ := hC
  cases hl : ls[(j : Nat)]? with
  | none => simp only [act, hl] at h; exact nos h
  | some v =>
    cases v with
    | double a =>
      have h1 : (some (Sum.inl (pc + 1, ls, .double a :: st, bc, bs, hp)) : Option Act) = some (Sum.inl (pc', ls', st', bc', bs', hp')) := by simp only [act, hl] at h; exact h
      cases h1
      exact hk.go (fun r r2 => ok_cs (trivial) r) (fun H locs lsr ad cells slots hL kk => lv_dload_n hx hb hd rfl (hL.at hl (fun q => by cases q)) kk)
    | _ => simp only [act, hl] at h; exact nos h
theorem n_dload {j : Nat} (hC : Cx p l R s m meth c k lo D tA) (hd : decode (mB k) pc = .ok ((.dload j), 2)) (h : act k (.dload j) pc ls st bc bs hp = some (.inl (pc', ls', st', bc', bs', hp'))) (hk : Wg p l e R s m args below meth c Q D tA lo k ad0 n0 pc' ls' st' bc' bs' hp') : Wg p l e R s m args below meth c Q D tA lo k ad0 n0 pc ls st bc bs hp := by
  obtain ⟨⟨hx, hb, hown, hml⟩, ⟨hlk, hr, hmn, hxt⟩, hF, hZ, hlo, hrm, htr⟩ := hC
  cases hl : ls[j]? with
  | none => simp only [act, hl] at h; exact nos h
  | some v =>
    cases v with
    | double a =>
      have h1 : (some (Sum.inl (pc + 2, ls, .double a :: st, bc, bs, hp)) : Option Act) = some (Sum.inl (pc', ls', st', bc', bs', hp')) := by simp only [act, hl] at h; exact h
      cases h1
      exact hk.go (fun r r2 => ok_cs (trivial) r) (fun H locs lsr ad cells slots hL kk => lv_dload hx hb hd (hL.at hl (fun q => by cases q)) kk)
    | _ => simp only [act, hl] at h; exact nos h
theorem n_lload_n {j : Fin 4} (hC : Cx p l R s m meth c k lo D tA) (hd : decode (mB k) pc = .ok ((.lload_n j), 1)) (h : act k (.lload_n j) pc ls st bc bs hp = some (.inl (pc', ls', st', bc', bs', hp'))) (hk : Wg p l e R s m args below meth c Q D tA lo k ad0 n0 pc' ls' st' bc' bs' hp') : Wg p l e R s m args below meth c Q D tA lo k ad0 n0 pc ls st bc bs hp := by
  obtain ⟨⟨hx, hb, hown, hml⟩, ⟨hlk, hr, hmn, hxt⟩, hF, hZ, hlo, hrm, htr⟩ := hC
  cases hl : ls[(j : Nat)]? with
  | none => simp only [act, hl] at h; exact nos h
  | some v =>
    cases v with
    | long a =>
      have h1 : (some (Sum.inl (pc + 1, ls, .long a :: st, bc, bs, hp)) : Option Act) = some (Sum.inl (pc', ls', st', bc', bs', hp')) := by simp only [act, hl] at h; exact h
      cases h1
      exact hk.go (fun r r2 => ok_cs (trivial) r) (fun H locs lsr ad cells slots hL kk => lv_lload_n hx hb hd rfl (hL.at hl (fun q => by cases q)) kk)
    | _ => simp only [act, hl] at h; exact nos h
theorem n_istore_n {j : Fin 4} (hC : Cx p l R s m meth c k lo D tA) (hd : decode (mB k) pc = .ok ((.istore_n j), 1)) (h : act k (.istore_n j) pc ls st bc bs hp = some (.inl (pc', ls', st', bc', bs', hp'))) (hk : Wg p l e R s m args below meth c Q D tA lo k ad0 n0 pc' ls' st' bc' bs' hp') : Wg p l e R s m args below meth c Q D tA lo k ad0 n0 pc ls st bc bs hp := by
  obtain ⟨⟨hx, hb, hown, hml⟩, ⟨hlk, hr, hmn, hxt⟩, hF, hZ, hlo, hrm, htr⟩ := hC
  cases st with
  | nil => exact nos h
  | cons v0 st =>
    cases v0 with
    | int x =>
      by_cases hc : (j : Nat) < ls.length ∧ pok ls (j : Nat) = true
      · have h1 : (some (Sum.inl (pc + 1, ls.set (j : Nat) (.int x), st, bc, bs, hp)) : Option Act) = some (Sum.inl (pc', ls', st', bc', bs', hp')) := by simp only [act, st1, if_pos hc] at h; exact h
        cases h1
        intro H locs lsr ad cells slots hR z1 z2
        obtain ⟨r1, r2, ⟨r3, r4⟩, r5, r6⟩ := hR
        exact lv_istore_n hx hb hd rfl r5.has (by rw [← r5.1]; exact hc.1) rfl (fun lsr2 hl => hk H locs lsr2 ad cells slots ⟨r1, r2, ⟨ok_tl r3, ok_set trivial r4⟩, r5.st1 hc.2 (Or.inr rfl) hl, r6⟩ z1 z2)
      · simp only [act, st1, if_neg hc] at h
        exact nos h
    | _ => exact nos h
theorem n_istore {j : Nat} (hC : Cx p l R s m meth c k lo D tA) (hd : decode (mB k) pc = .ok ((.istore j), 2)) (h : act k (.istore j) pc ls st bc bs hp = some (.inl (pc', ls', st', bc', bs', hp'))) (hk : Wg p l e R s m args below meth c Q D tA lo k ad0 n0 pc' ls' st' bc' bs' hp') : Wg p l e R s m args below meth c Q D tA lo k ad0 n0 pc ls st bc bs hp := by
  obtain ⟨⟨hx, hb, hown, hml⟩, ⟨hlk, hr, hmn, hxt⟩, hF, hZ, hlo, hrm, htr⟩ := hC
  cases st with
  | nil => exact nos h
  | cons v0 st =>
    cases v0 with
    | int x =>
      by_cases hc : j < ls.length ∧ pok ls j = true
      · have h1 : (some (Sum.inl (pc + 2, ls.set j (.int x), st, bc, bs, hp)) : Option Act) = some (Sum.inl (pc', ls', st', bc', bs', hp')) := by simp only [act, st1, if_pos hc] at h; exact h
        cases h1
        intro H locs lsr ad cells slots hR z1 z2
        obtain ⟨r1, r2, ⟨r3, r4⟩, r5, r6⟩ := hR
        exact lv_istore hx hb hd r5.has (by rw [← r5.1]; exact hc.1) rfl (fun lsr2 hl => hk H locs lsr2 ad cells slots ⟨r1, r2, ⟨ok_tl r3, ok_set trivial r4⟩, r5.st1 hc.2 (Or.inr rfl) hl, r6⟩ z1 z2)
      · simp only [act, st1, if_neg hc] at h
        exact nos h
    | _ => exact nos h
theorem n_astore_n {j : Fin 4} (hC : Cx p l R s m meth c k lo D tA) (hd : decode (mB k) pc = .ok ((.astore_n j), 1)) (h : act k (.astore_n j) pc ls st bc bs hp = some (.inl (pc', ls', st', bc', bs', hp'))) (hk : Wg p l e R s m args below meth c Q D tA lo k ad0 n0 pc' ls' st' bc' bs' hp') : Wg p l e R s m args below meth c Q D tA lo k ad0 n0 pc ls st bc bs hp := by
  obtain ⟨⟨hx, hb, hown, hml⟩, ⟨hlk, hr, hmn, hxt⟩, hF, hZ, hlo, hrm, htr⟩ := hC
  cases st with
  | nil => exact nos h
  | cons v0 st =>
    cases v0 with
    | ref x =>
      by_cases hc : (j : Nat) < ls.length ∧ pok ls (j : Nat) = true
      · have h1 : (some (Sum.inl (pc + 1, ls.set (j : Nat) (.ref x), st, bc, bs, hp)) : Option Act) = some (Sum.inl (pc', ls', st', bc', bs', hp')) := by simp only [act, st1, if_pos hc] at h; exact h
        cases h1
        intro H locs lsr ad cells slots hR z1 z2
        obtain ⟨r1, r2, ⟨r3, r4⟩, r5, r6⟩ := hR
        exact lv_astore_n hx hb hd rfl r5.has (by rw [← r5.1]; exact hc.1) rfl (fun lsr2 hl => hk H locs lsr2 ad cells slots ⟨r1, r2, ⟨ok_tl r3, ok_set (ok_hd r3) r4⟩, r5.st1 hc.2 (Or.inr rfl) hl, r6⟩ z1 z2)
      · simp only [act, st1, if_neg hc] at h
        exact nos h
    | _ => exact nos h
theorem n_astore {j : Nat} (hC : Cx p l R s m meth c k lo D tA) (hd : decode (mB k) pc = .ok ((.astore j), 2)) (h : act k (.astore j) pc ls st bc bs hp = some (.inl (pc', ls', st', bc', bs', hp'))) (hk : Wg p l e R s m args below meth c Q D tA lo k ad0 n0 pc' ls' st' bc' bs' hp') : Wg p l e R s m args below meth c Q D tA lo k ad0 n0 pc ls st bc bs hp := by
  obtain ⟨⟨hx, hb, hown, hml⟩, ⟨hlk, hr, hmn, hxt⟩, hF, hZ, hlo, hrm, htr⟩ := hC
  cases st with
  | nil => exact nos h
  | cons v0 st =>
    cases v0 with
    | ref x =>
      by_cases hc : j < ls.length ∧ pok ls j = true
      · have h1 : (some (Sum.inl (pc + 2, ls.set j (.ref x), st, bc, bs, hp)) : Option Act) = some (Sum.inl (pc', ls', st', bc', bs', hp')) := by simp only [act, st1, if_pos hc] at h; exact h
        cases h1
        intro H locs lsr ad cells slots hR z1 z2
        obtain ⟨r1, r2, ⟨r3, r4⟩, r5, r6⟩ := hR
        exact lv_astore hx hb hd r5.has (by rw [← r5.1]; exact hc.1) rfl (fun lsr2 hl => hk H locs lsr2 ad cells slots ⟨r1, r2, ⟨ok_tl r3, ok_set (ok_hd r3) r4⟩, r5.st1 hc.2 (Or.inr rfl) hl, r6⟩ z1 z2)
      · simp only [act, st1, if_neg hc] at h
        exact nos h
    | _ => exact nos h
theorem n_fstore_n {j : Fin 4} (hC : Cx p l R s m meth c k lo D tA) (hd : decode (mB k) pc = .ok ((.fstore_n j), 1)) (h : act k (.fstore_n j) pc ls st bc bs hp = some (.inl (pc', ls', st', bc', bs', hp'))) (hk : Wg p l e R s m args below meth c Q D tA lo k ad0 n0 pc' ls' st' bc' bs' hp') : Wg p l e R s m args below meth c Q D tA lo k ad0 n0 pc ls st bc bs hp := by
  obtain ⟨⟨hx, hb, hown, hml⟩, ⟨hlk, hr, hmn, hxt⟩, hF, hZ, hlo, hrm, htr⟩ := hC
  cases st with
  | nil => exact nos h
  | cons v0 st =>
    cases v0 with
    | float x =>
      by_cases hc : (j : Nat) < ls.length ∧ pok ls (j : Nat) = true
      · have h1 : (some (Sum.inl (pc + 1, ls.set (j : Nat) (.float x), st, bc, bs, hp)) : Option Act) = some (Sum.inl (pc', ls', st', bc', bs', hp')) := by simp only [act, st1, if_pos hc] at h; exact h
        cases h1
        intro H locs lsr ad cells slots hR z1 z2
        obtain ⟨r1, r2, ⟨r3, r4⟩, r5, r6⟩ := hR
        exact lv_fstore_n hx hb hd rfl r5.has (by rw [← r5.1]; exact hc.1) rfl (fun lsr2 hl => hk H locs lsr2 ad cells slots ⟨r1, r2, ⟨ok_tl r3, ok_set trivial r4⟩, r5.st1 hc.2 (Or.inr rfl) hl, r6⟩ z1 z2)
      · simp only [act, st1, if_neg hc] at h
        exact nos h
    | _ => exact nos h
theorem n_fstore {j : Nat} (hC : Cx p l R s m meth c k lo D tA) (hd : decode (mB k) pc = .ok ((.fstore j), 2)) (h : act k (.fstore j) pc ls st bc bs hp = some (.inl (pc', ls', st', bc', bs', hp'))) (hk : Wg p l e R s m args below meth c Q D tA lo k ad0 n0 pc' ls' st' bc' bs' hp') : Wg p l e R s m args below meth c Q D tA lo k ad0 n0 pc ls st bc bs hp := by
  obtain ⟨⟨hx, hb, hown, hml⟩, ⟨hlk, hr, hmn, hxt⟩, hF, hZ, hlo, hrm, htr⟩ := hC
  cases st with
  | nil => exact nos h
  | cons v0 st =>
    cases v0 with
    | float x =>
      by_cases hc : j < ls.length ∧ pok ls j = true
      · have h1 : (some (Sum.inl (pc + 2, ls.set j (.float x), st, bc, bs, hp)) : Option Act) = some (Sum.inl (pc', ls', st', bc', bs', hp')) := by simp only [act, st1, if_pos hc] at h; exact h
        cases h1
        intro H locs lsr ad cells slots hR z1 z2
        obtain ⟨r1, r2, ⟨r3, r4⟩, r5, r6⟩ := hR
        exact lv_fstore hx hb hd r5.has (by rw [← r5.1]; exact hc.1) rfl (fun lsr2 hl => hk H locs lsr2 ad cells slots ⟨r1, r2, ⟨ok_tl r3, ok_set trivial r4⟩, r5.st1 hc.2 (Or.inr rfl) hl, r6⟩ z1 z2)
      · simp only [act, st1, if_neg hc] at h
        exact nos h
    | _ => exact nos h
theorem n_dstore_n {j : Fin 4} (hC : Cx p l R s m meth c k lo D tA) (hd : decode (mB k) pc = .ok ((.dstore_n j), 1)) (h : act k (.dstore_n j) pc ls st bc bs hp = some (.inl (pc', ls', st', bc', bs', hp'))) (hk : Wg p l e R s m args below meth c Q D tA lo k ad0 n0 pc' ls' st' bc' bs' hp') : Wg p l e R s m args below meth c Q D tA lo k ad0 n0 pc ls st bc bs hp := by
  obtain ⟨⟨hx, hb, hown, hml⟩, ⟨hlk, hr, hmn, hxt⟩, hF, hZ, hlo, hrm, htr⟩ := hC
  cases st with
  | nil => exact nos h
  | cons v0 st =>
    cases v0 with
    | double x =>
      by_cases hc : (j : Nat) + 1 < ls.length ∧ pok ls (j : Nat) = true
      · have h1 : (some (Sum.inl (pc + 1, (ls.set (j : Nat) (.double x)).set ((j : Nat) + 1) .null, st, bc, bs, hp)) : Option Act) = some (Sum.inl (pc', ls', st', bc', bs', hp')) := by simp only [act, st2, if_pos hc] at h; exact h
        cases h1
        intro H locs lsr ad cells slots hR z1 z2
        obtain ⟨r1, r2, ⟨r3, r4⟩, r5, r6⟩ := hR
        exact lv_dstore_n hx hb hd rfl r5.has (by rw [← r5.1]; exact hc.1) rfl (fun lsr2 hl => hk H locs lsr2 ad cells slots ⟨r1, r2, ⟨ok_tl r3, ok_set trivial (ok_set trivial r4)⟩, r5.st2 hc.2 hl, r6⟩ z1 z2)
      · simp only [act, st2, if_neg hc] at h
        exact nos h
    | _ => exact nos h
theorem n_dstore {j : Nat} (hC : Cx p l R s m meth c k lo D tA) (hd : decode (mB k) pc = .ok ((.dstore j), 2)) (h : act k (.dstore j) pc ls st bc bs hp = some (.inl (pc', ls', st', bc', bs', hp'))) (hk : Wg p l e R s m args below meth c Q D tA lo k ad0 n0 pc' ls' st' bc' bs' hp') : Wg p l e R s m args below meth c Q D tA lo k ad0 n0 pc ls st bc bs hp := by
  obtain ⟨⟨hx, hb, hown, hml⟩, ⟨hlk, hr, hmn, hxt⟩, hF, hZ, hlo, hrm, htr⟩ := hC
  cases st with
  | nil => exact nos h
  | cons v0 st =>
    cases v0 with
    | double x =>
      by_cases hc : j + 1 < ls.length ∧ pok ls j = true
      · have h1 : (some (Sum.inl (pc + 2, (ls.set j (.double x)).set (j + 1) .null, st, bc, bs, hp)) : Option Act) = some (Sum.inl (pc', ls', st', bc', bs', hp')) := by simp only [act, st2, if_pos hc] at h; exact h
        cases h1
        intro H locs lsr ad cells slots hR z1 z2
        obtain ⟨r1, r2, ⟨r3, r4⟩, r5, r6⟩ := hR
        exact lv_dstore hx hb hd r5.has (by rw [← r5.1]; exact hc.1) rfl (fun lsr2 hl => hk H locs lsr2 ad cells slots ⟨r1, r2, ⟨ok_tl r3, ok_set trivial (ok_set trivial r4)⟩, r5.st2 hc.2 hl, r6⟩ z1 z2)
      · simp only [act, st2, if_neg hc] at h
        exact nos h
    | _ => exact nos h
theorem n_lstore_n {j : Fin 4} (hC : Cx p l R s m meth c k lo D tA) (hd : decode (mB k) pc = .ok ((.lstore_n j), 1)) (h : act k (.lstore_n j) pc ls st bc bs hp = some (.inl (pc', ls', st', bc', bs', hp'))) (hk : Wg p l e R s m args below meth c Q D tA lo k ad0 n0 pc' ls' st' bc' bs' hp') : Wg p l e R s m args below meth c Q D tA lo k ad0 n0 pc ls st bc bs hp := by
  obtain ⟨⟨hx, hb, hown, hml⟩, ⟨hlk, hr, hmn, hxt⟩, hF, hZ, hlo, hrm, htr⟩ := hC
  cases st with
  | nil => exact nos h
  | cons v0 st =>
    cases v0 with
    | long x =>
      by_cases hc : (j : Nat) + 1 < ls.length ∧ pok ls (j : Nat) = true
      · have h1 : (some (Sum.inl (pc + 1, (ls.set (j : Nat) (.long x)).set ((j : Nat) + 1) .null, st, bc, bs, hp)) : Option Act) = some (Sum.inl (pc', ls', st', bc', bs', hp')) := by simp only [act, st2, if_pos hc] at h; exact h
        cases h1
        intro H locs lsr ad cells slots hR z1 z2
        obtain ⟨r1, r2, ⟨r3, r4⟩, r5, r6⟩ := hR
        exact lv_lstore_n hx hb hd rfl r5.has (by rw [← r5.1]; exact hc.1) rfl (fun lsr2 hl => hk H locs lsr2 ad cells slots ⟨r1, r2, ⟨ok_tl r3, ok_set trivial (ok_set trivial r4)⟩, r5.st2 hc.2 hl, r6⟩ z1 z2)
      · simp only [act, st2, if_neg hc] at h
        exact nos h
    | _ => exact nos h
theorem n_iinc {j : Nat} {n : Int} (hC : Cx p l R s m meth c k lo D tA) (hd : decode (mB k) pc = .ok ((.iinc j n), 3)) (h : act k (.iinc j n) pc ls st bc bs hp = some (.inl (pc', ls', st', bc', bs', hp'))) (hk : Wg p l e R s m args below meth c Q D tA lo k ad0 n0 pc' ls' st' bc' bs' hp') : Wg p l e R s m args below meth c Q D tA lo k ad0 n0 pc ls st bc bs hp := by
  obtain ⟨⟨hx, hb, hown, hml⟩, ⟨hlk, hr, hmn, hxt⟩, hF, hZ, hlo, hrm, htr⟩ := hC
  cases hl : ls[j]? with
  | none => simp only [act, hl] at h; exact nos h
  | some v =>
    cases v with
    | int x =>
      by_cases hc : j < ls.length ∧ pok ls j = true
      · have h1 : (some (Sum.inl (pc + 3, ls.set j (.int (x + Int32.ofInt n)), st, bc, bs, hp)) : Option Act) = some (Sum.inl (pc', ls', st', bc', bs', hp')) := by simp only [act, hl, st1, if_pos hc] at h; exact h
        cases h1
        intro H locs lsr ad cells slots hR z1 z2
        obtain ⟨r1, r2, ⟨r3, r4⟩, r5, r6⟩ := hR
        obtain ⟨q, hq⟩ := List.getElem?_of_mem (mem_ascL (ad := ad) hl (fun q => by cases q))
        exact lv_iinc hx hb hd r5.has hq rfl (by rw [← r5.1]; exact hc.1) rfl (fun lsr2 hl => hk H locs lsr2 ad cells slots ⟨r1, r2, ⟨r3, ok_set trivial r4⟩, r5.st1 hc.2 (Or.inr rfl) hl, r6⟩ z1 z2)
      · simp only [act, hl, st1, if_neg hc] at h
        exact nos h
    | _ => simp only [act, hl] at h; exact nos h
theorem n_dup (hC : Cx p l R s m meth c k lo D tA) (hd : decode (mB k) pc = .ok (.dup, 1)) (h : act k .dup pc ls st bc bs hp = some (.inl (pc', ls', st', bc', bs', hp'))) (hk : Wg p l e R s m args below meth c Q D tA lo k ad0 n0 pc' ls' st' bc' bs' hp') : Wg p l e R s m args below meth c Q D tA lo k ad0 n0 pc ls st bc bs hp := by
  obtain ⟨⟨hx, hb, hown, hml⟩, ⟨hlk, hr, hmn, hxt⟩, hF, hZ, hlo, hrm, htr⟩ := hC
  cases st with
  | nil => exact nos h
  | cons v st =>
    by_cases hc : v.category = 1
    · have h1 : (some (Sum.inl (pc + 1, ls, v :: v :: st, bc, bs, hp)) : Option Act) = some (Sum.inl (pc', ls', st', bc', bs', hp')) := by simp only [act, if_pos hc] at h; exact h
      cases h1
      exact hk.go (fun r _ => ok_cs (ok_hd r) r) (fun H locs lsr ad cells slots hL kk => lv_dup hx hb hd (by rw [tr_cat]; exact hc) kk)
    · simp only [act, if_neg hc] at h
      exact nos h
theorem n_pop (hC : Cx p l R s m meth c k lo D tA) (hd : decode (mB k) pc = .ok (.pop, 1)) (h : act k .pop pc ls st bc bs hp = some (.inl (pc', ls', st', bc', bs', hp'))) (hk : Wg p l e R s m args below meth c Q D tA lo k ad0 n0 pc' ls' st' bc' bs' hp') : Wg p l e R s m args below meth c Q D tA lo k ad0 n0 pc ls st bc bs hp := by
  obtain ⟨⟨hx, hb, hown, hml⟩, ⟨hlk, hr, hmn, hxt⟩, hF, hZ, hlo, hrm, htr⟩ := hC
  cases st with
  | nil => exact nos h
  | cons v st =>
    by_cases hc : v.category = 1
    · have h1 : (some (Sum.inl (pc + 1, ls, st, bc, bs, hp)) : Option Act) = some (Sum.inl (pc', ls', st', bc', bs', hp')) := by simp only [act, if_pos hc] at h; exact h
      cases h1
      exact hk.go (fun r _ => ok_tl r) (fun H locs lsr ad cells slots hL kk => lv_pop hx hb hd (by rw [tr_cat]; exact hc) kk)
    · simp only [act, if_neg hc] at h
      exact nos h
theorem n_dup2 (hC : Cx p l R s m meth c k lo D tA) (hd : decode (mB k) pc = .ok (.dup2, 1)) (h : act k .dup2 pc ls st bc bs hp = some (.inl (pc', ls', st', bc', bs', hp'))) (hk : Wg p l e R s m args below meth c Q D tA lo k ad0 n0 pc' ls' st' bc' bs' hp') : Wg p l e R s m args below meth c Q D tA lo k ad0 n0 pc ls st bc bs hp := by
  obtain ⟨⟨hx, hb, hown, hml⟩, ⟨hlk, hr, hmn, hxt⟩, hF, hZ, hlo, hrm, htr⟩ := hC
  cases st with
  | nil => exact nos h
  | cons v st =>
    cases st with
    | nil => exact nos h
    | cons w st =>
      by_cases hc : v.category = 1 ∧ w.category = 1
      · have h1 : (some (Sum.inl (pc + 1, ls, v :: w :: v :: w :: st, bc, bs, hp)) : Option Act) = some (Sum.inl (pc', ls', st', bc', bs', hp')) := by simp only [act, if_pos hc] at h; exact h
        cases h1
        exact hk.go (fun r _ => ok_cs (ok_hd r) (ok_cs (ok_hd (ok_tl r)) r)) (fun H locs lsr ad cells slots hL kk => lv_dup2_11 hx hb hd (by rw [tr_cat]; exact hc.1) (by rw [tr_cat]; exact hc.2) kk)
      · simp only [act, if_neg hc] at h
        exact nos h
theorem n_goto {off : Int} (hC : Cx p l R s m meth c k lo D tA) (hd : decode (mB k) pc = .ok ((.goto off), 3)) (h : act k (.goto off) pc ls st bc bs hp = some (.inl (pc', ls', st', bc', bs', hp'))) (hk : Wg p l e R s m args below meth c Q D tA lo k ad0 n0 pc' ls' st' bc' bs' hp') : Wg p l e R s m args below meth c Q D tA lo k ad0 n0 pc ls st bc bs hp := by
  obtain ⟨⟨hx, hb, hown, hml⟩, ⟨hlk, hr, hmn, hxt⟩, hF, hZ, hlo, hrm, htr⟩ := hC
  cases hj : jmp pc off with
  | none => simp only [act, hj] at h; exact nos h
  | some t =>
    have h1 : (some (Sum.inl (t, ls, st, bc, bs, hp)) : Option Act) = some (Sum.inl (pc', ls', st', bc', bs', hp')) := by simp only [act, hj] at h; exact h
    cases h1
    exact hk.go (fun r _ => r) (fun H locs lsr ad cells slots hL kk => lv_goto hx hb hd (jmp_spec hj) kk)
theorem n_ifCond_eq {off : Int} (hC : Cx p l R s m meth c k lo D tA) (hd : decode (mB k) pc = .ok ((.ifCond .eq off), 3)) (h : act k (.ifCond .eq off) pc ls st bc bs hp = some (.inl (pc', ls', st', bc', bs', hp'))) (hk : Wg p l e R s m args below meth c Q D tA lo k ad0 n0 pc' ls' st' bc' bs' hp') : Wg p l e R s m args below meth c Q D tA lo k ad0 n0 pc ls st bc bs hp := by
  obtain ⟨⟨hx, hb, hown, hml⟩, ⟨hlk, hr, hmn, hxt⟩, hF, hZ, hlo, hrm, htr⟩ := hC
  cases st with
  | nil => exact nos h
  | cons v0 st =>
    cases v0 with
    | int x =>
      cases hj : jmp pc off with
      | none => simp only [act, br, hj] at h; exact nos h
      | some t =>
        by_cases hc : x = 0
        · have h1 : (some (Sum.inl (t, ls, st, bc, bs, hp)) : Option Act) = some (Sum.inl (pc', ls', st', bc', bs', hp')) := by simp only [act, br, hj, icndB, decide_eq_true_eq, if_pos hc] at h; exact h
          cases h1
          exact hk.go (fun r _ => ok_tl r) (fun H locs lsr ad cells slots hL kk => lv_if_eq hx hb hd (jmp_spec hj) (fun _ => kk) (fun hn => absurd hc hn))
        · have h1 : (some (Sum.inl (pc + 3, ls, st, bc, bs, hp)) : Option Act) = some (Sum.inl (pc', ls', st', bc', bs', hp')) := by simp only [act, br, hj, icndB, decide_eq_true_eq, if_neg hc] at h; exact h
          cases h1
          exact hk.go (fun r _ => ok_tl r) (fun H locs lsr ad cells slots hL kk => lv_if_eq hx hb hd (jmp_spec hj) (fun hn => absurd hn hc) (fun _ => kk))
    | _ => exact nos h
theorem n_ifCond_ne {off : Int} (hC : Cx p l R s m meth c k lo D tA) (hd : decode (mB k) pc = .ok ((.ifCond .ne off), 3)) (h : act k (.ifCond .ne off) pc ls st bc bs hp = some (.inl (pc', ls', st', bc', bs', hp'))) (hk : Wg p l e R s m args below meth c Q D tA lo k ad0 n0 pc' ls' st' bc' bs' hp') : Wg p l e R s m args below meth c Q D tA lo k ad0 n0 pc ls st bc bs hp := by
  obtain ⟨⟨hx, hb, hown, hml⟩, ⟨hlk, hr, hmn, hxt⟩, hF, hZ, hlo, hrm, htr⟩ := hC
  cases st with
  | nil => exact nos h
  | cons v0 st =>
    cases v0 with
    | int x =>
      cases hj : jmp pc off with
      | none => simp only [act, br, hj] at h; exact nos h
      | some t =>
        by_cases hc : ¬ x = 0
        · have h1 : (some (Sum.inl (t, ls, st, bc, bs, hp)) : Option Act) = some (Sum.inl (pc', ls', st', bc', bs', hp')) := by simp only [act, br, hj, icndB, decide_eq_true_eq, if_pos hc] at h; exact h
          cases h1
          exact hk.go (fun r _ => ok_tl r) (fun H locs lsr ad cells slots hL kk => lv_if_ne hx hb hd (jmp_spec hj) (fun _ => kk) (fun hn => absurd hn hc))
        · have h1 : (some (Sum.inl (pc + 3, ls, st, bc, bs, hp)) : Option Act) = some (Sum.inl (pc', ls', st', bc', bs', hp')) := by simp only [act, br, hj, icndB, decide_eq_true_eq, if_neg hc] at h; exact h
          cases h1
          exact hk.go (fun r _ => ok_tl r) (fun H locs lsr ad cells slots hL kk => lv_if_ne hx hb hd (jmp_spec hj) (fun hn => absurd hn hc) (fun _ => kk))
    | _ => exact nos h
theorem n_ifCond_lt {off : Int} (hC : Cx p l R s m meth c k lo D tA) (hd : decode (mB k) pc = .ok ((.ifCond .lt off), 3)) (h : act k (.ifCond .lt off) pc ls st bc bs hp = some (.inl (pc', ls', st', bc', bs', hp'))) (hk : Wg p l e R s m args below meth c Q D tA lo k ad0 n0 pc' ls' st' bc' bs' hp') : Wg p l e R s m args below meth c Q D tA lo k ad0 n0 pc ls st bc bs hp := by
  obtain ⟨⟨hx, hb, hown, hml⟩, ⟨hlk, hr, hmn, hxt⟩, hF, hZ, hlo, hrm, htr⟩ := hC
  cases st with
  | nil => exact nos h
  | cons v0 st =>
    cases v0 with
    | int x =>
      cases hj : jmp pc off with
      | none => simp only [act, br, hj] at h; exact nos h
      | some t =>
        by_cases hc : x < 0
        · have h1 : (some (Sum.inl (t, ls, st, bc, bs, hp)) : Option Act) = some (Sum.inl (pc', ls', st', bc', bs', hp')) := by simp only [act, br, hj, icndB, decide_eq_true_eq, if_pos hc] at h; exact h
          cases h1
          exact hk.go (fun r _ => ok_tl r) (fun H locs lsr ad cells slots hL kk => lv_if_lt hx hb hd (jmp_spec hj) (fun _ => kk) (fun hn => absurd hc hn))
        · have h1 : (some (Sum.inl (pc + 3, ls, st, bc, bs, hp)) : Option Act) = some (Sum.inl (pc', ls', st', bc', bs', hp')) := by simp only [act, br, hj, icndB, decide_eq_true_eq, if_neg hc] at h; exact h
          cases h1
          exact hk.go (fun r _ => ok_tl r) (fun H locs lsr ad cells slots hL kk => lv_if_lt hx hb hd (jmp_spec hj) (fun hn => absurd hn hc) (fun _ => kk))
    | _ => exact nos h
theorem n_ifCond_ge {off : Int} (hC : Cx p l R s m meth c k lo D tA) (hd : decode (mB k) pc = .ok ((.ifCond .ge off), 3)) (h : act k (.ifCond .ge off) pc ls st bc bs hp = some (.inl (pc', ls', st', bc', bs', hp'))) (hk : Wg p l e R s m args below meth c Q D tA lo k ad0 n0 pc' ls' st' bc' bs' hp') : Wg p l e R s m args below meth c Q D tA lo k ad0 n0 pc ls st bc bs hp := by
  obtain ⟨⟨hx, hb, hown, hml⟩, ⟨hlk, hr, hmn, hxt⟩, hF, hZ, hlo, hrm, htr⟩ := hC
  cases st with
  | nil => exact nos h
  | cons v0 st =>
    cases v0 with
    | int x =>
      cases hj : jmp pc off with
      | none => simp only [act, br, hj] at h; exact nos h
      | some t =>
        by_cases hc : 0 ≤ x
        · have h1 : (some (Sum.inl (t, ls, st, bc, bs, hp)) : Option Act) = some (Sum.inl (pc', ls', st', bc', bs', hp')) := by simp only [act, br, hj, icndB, decide_eq_true_eq, if_pos hc] at h; exact h
          cases h1
          exact hk.go (fun r _ => ok_tl r) (fun H locs lsr ad cells slots hL kk => lv_if_ge hx hb hd (jmp_spec hj) (fun _ => kk) (fun hn => absurd hc hn))
        · have h1 : (some (Sum.inl (pc + 3, ls, st, bc, bs, hp)) : Option Act) = some (Sum.inl (pc', ls', st', bc', bs', hp')) := by simp only [act, br, hj, icndB, decide_eq_true_eq, if_neg hc] at h; exact h
          cases h1
          exact hk.go (fun r _ => ok_tl r) (fun H locs lsr ad cells slots hL kk => lv_if_ge hx hb hd (jmp_spec hj) (fun hn => absurd hn hc) (fun _ => kk))
    | _ => exact nos h
theorem n_ifCond_gt {off : Int} (hC : Cx p l R s m meth c k lo D tA) (hd : decode (mB k) pc = .ok ((.ifCond .gt off), 3)) (h : act k (.ifCond .gt off) pc ls st bc bs hp = some (.inl (pc', ls', st', bc', bs', hp'))) (hk : Wg p l e R s m args below meth c Q D tA lo k ad0 n0 pc' ls' st' bc' bs' hp') : Wg p l e R s m args below meth c Q D tA lo k ad0 n0 pc ls st bc bs hp := by
  obtain ⟨⟨hx, hb, hown, hml⟩, ⟨hlk, hr, hmn, hxt⟩, hF, hZ, hlo, hrm, htr⟩ := hC
  cases st with
  | nil => exact nos h
  | cons v0 st =>
    cases v0 with
    | int x =>
      cases hj : jmp pc off with
      | none => simp only [act, br, hj] at h; exact nos h
      | some t =>
        by_cases hc : 0 < x
        · have h1 : (some (Sum.inl (t, ls, st, bc, bs, hp)) : Option Act) = some (Sum.inl (pc', ls', st', bc', bs', hp')) := by simp only [act, br, hj, icndB, decide_eq_true_eq, if_pos hc] at h; exact h
          cases h1
          exact hk.go (fun r _ => ok_tl r) (fun H locs lsr ad cells slots hL kk => lv_if_gt hx hb hd (jmp_spec hj) (fun _ => kk) (fun hn => absurd hc hn))
        · have h1 : (some (Sum.inl (pc + 3, ls, st, bc, bs, hp)) : Option Act) = some (Sum.inl (pc', ls', st', bc', bs', hp')) := by simp only [act, br, hj, icndB, decide_eq_true_eq, if_neg hc] at h; exact h
          cases h1
          exact hk.go (fun r _ => ok_tl r) (fun H locs lsr ad cells slots hL kk => lv_if_gt hx hb hd (jmp_spec hj) (fun hn => absurd hn hc) (fun _ => kk))
    | _ => exact nos h
theorem n_ifCond_le {off : Int} (hC : Cx p l R s m meth c k lo D tA) (hd : decode (mB k) pc = .ok ((.ifCond .le off), 3)) (h : act k (.ifCond .le off) pc ls st bc bs hp = some (.inl (pc', ls', st', bc', bs', hp'))) (hk : Wg p l e R s m args below meth c Q D tA lo k ad0 n0 pc' ls' st' bc' bs' hp') : Wg p l e R s m args below meth c Q D tA lo k ad0 n0 pc ls st bc bs hp := by
  obtain ⟨⟨hx, hb, hown, hml⟩, ⟨hlk, hr, hmn, hxt⟩, hF, hZ, hlo, hrm, htr⟩ := hC
  cases st with
  | nil => exact nos h
  | cons v0 st =>
    cases v0 with
    | int x =>
      cases hj : jmp pc off with
      | none => simp only [act, br, hj] at h; exact nos h
      | some t =>
        by_cases hc : x ≤ 0
        · have h1 : (some (Sum.inl (t, ls, st, bc, bs, hp)) : Option Act) = some (Sum.inl (pc', ls', st', bc', bs', hp')) := by simp only [act, br, hj, icndB, decide_eq_true_eq, if_pos hc] at h; exact h
          cases h1
          exact hk.go (fun r _ => ok_tl r) (fun H locs lsr ad cells slots hL kk => lv_if_le hx hb hd (jmp_spec hj) (fun _ => kk) (fun hn => absurd hc hn))
        · have h1 : (some (Sum.inl (pc + 3, ls, st, bc, bs, hp)) : Option Act) = some (Sum.inl (pc', ls', st', bc', bs', hp')) := by simp only [act, br, hj, icndB, decide_eq_true_eq, if_neg hc] at h; exact h
          cases h1
          exact hk.go (fun r _ => ok_tl r) (fun H locs lsr ad cells slots hL kk => lv_if_le hx hb hd (jmp_spec hj) (fun hn => absurd hn hc) (fun _ => kk))
    | _ => exact nos h
theorem n_if_icmp_eq {off : Int} (hC : Cx p l R s m meth c k lo D tA) (hd : decode (mB k) pc = .ok ((.if_icmp .eq off), 3)) (h : act k (.if_icmp .eq off) pc ls st bc bs hp = some (.inl (pc', ls', st', bc', bs', hp'))) (hk : Wg p l e R s m args below meth c Q D tA lo k ad0 n0 pc' ls' st' bc' bs' hp') : Wg p l e R s m args below meth c Q D tA lo k ad0 n0 pc ls st bc bs hp := by
  obtain ⟨⟨hx, hb, hown, hml⟩, ⟨hlk, hr, hmn, hxt⟩, hF, hZ, hlo, hrm, htr⟩ := hC
  cases st with
  | nil => exact nos h
  | cons v0 st =>
    cases v0 with
    | int y =>
      cases st with
      | nil => exact nos h
      | cons v1 st =>
        cases v1 with
        | int x =>
          cases hj : jmp pc off with
          | none => simp only [act, br, hj] at h; exact nos h
          | some t =>
            by_cases hc : x = y
            · have h1 : (some (Sum.inl (t, ls, st, bc, bs, hp)) : Option Act) = some (Sum.inl (pc', ls', st', bc', bs', hp')) := by simp only [act, br, hj, icndB, decide_eq_true_eq, if_pos hc] at h; exact h
              cases h1
              exact hk.go (fun r _ => ok_tl (ok_tl r)) (fun H locs lsr ad cells slots hL kk => lv_icmp_eq hx hb hd (jmp_spec hj) (fun _ => kk) (fun hn => absurd hc hn))
            · have h1 : (some (Sum.inl (pc + 3, ls, st, bc, bs, hp)) : Option Act) = some (Sum.inl (pc', ls', st', bc', bs', hp')) := by simp only [act, br, hj, icndB, decide_eq_true_eq, if_neg hc] at h; exact h
              cases h1
              exact hk.go (fun r _ => ok_tl (ok_tl r)) (fun H locs lsr ad cells slots hL kk => lv_icmp_eq hx hb hd (jmp_spec hj) (fun hn => absurd hn hc) (fun _ => kk))
        | _ => exact nos h
    | _ => exact nos h
theorem n_if_icmp_ne {off : Int} (hC : Cx p l R s m meth c k lo D tA) (hd : decode (mB k) pc = .ok ((.if_icmp .ne off), 3)) (h : act k (.if_icmp .ne off) pc ls st bc bs hp = some (.inl (pc', ls', st', bc', bs', hp'))) (hk : Wg p l e R s m args below meth c Q D tA lo k ad0 n0 pc' ls' st' bc' bs' hp') : Wg p l e R s m args below meth c Q D tA lo k ad0 n0 pc ls st bc bs hp := by
  obtain ⟨⟨hx, hb, hown, hml⟩, ⟨hlk, hr, hmn, hxt⟩, hF, hZ, hlo, hrm, htr⟩ := hC
  cases st with
  | nil => exact nos h
  | cons v0 st =>
    cases v0 with
    | int y =>
      cases st with
      | nil => exact nos h
      | cons v1 st =>
        cases v1 with
        | int x =>
          cases hj : jmp pc off with
          | none => simp only [act, br, hj] at h; exact nos h
          | some t =>
            by_cases hc : ¬ x = y
            · have h1 : (some (Sum.inl (t, ls, st, bc, bs, hp)) : Option Act) = some (Sum.inl (pc', ls', st', bc', bs', hp')) := by simp only [act, br, hj, icndB, decide_eq_true_eq, if_pos hc] at h; exact h
              cases h1
              exact hk.go (fun r _ => ok_tl (ok_tl r)) (fun H locs lsr ad cells slots hL kk => lv_icmp_ne hx hb hd (jmp_spec hj) (fun _ => kk) (fun hn => absurd hn hc))
            · have h1 : (some (Sum.inl (pc + 3, ls, st, bc, bs, hp)) : Option Act) = some (Sum.inl (pc', ls', st', bc', bs', hp')) := by simp only [act, br, hj, icndB, decide_eq_true_eq, if_neg hc] at h; exact h
              cases h1
              exact hk.go (fun r _ => ok_tl (ok_tl r)) (fun H locs lsr ad cells slots hL kk => lv_icmp_ne hx hb hd (jmp_spec hj) (fun hn => absurd hn hc) (fun _ => kk))
        | _ => exact nos h
    | _ => exact nos h
theorem n_if_icmp_lt {off : Int} (hC : Cx p l R s m meth c k lo D tA) (hd : decode (mB k) pc = .ok ((.if_icmp .lt off), 3)) (h : act k (.if_icmp .lt off) pc ls st bc bs hp = some (.inl (pc', ls', st', bc', bs', hp'))) (hk : Wg p l e R s m args below meth c Q D tA lo k ad0 n0 pc' ls' st' bc' bs' hp') : Wg p l e R s m args below meth c Q D tA lo k ad0 n0 pc ls st bc bs hp := by
  obtain ⟨⟨hx, hb, hown, hml⟩, ⟨hlk, hr, hmn, hxt⟩, hF, hZ, hlo, hrm, htr⟩ := hC
  cases st with
  | nil => exact nos h
  | cons v0 st =>
    cases v0 with
    | int y =>
      cases st with
      | nil => exact nos h
      | cons v1 st =>
        cases v1 with
        | int x =>
          cases hj : jmp pc off with
          | none => simp only [act, br, hj] at h; exact nos h
          | some t =>
            by_cases hc : x < y
            · have h1 : (some (Sum.inl (t, ls, st, bc, bs, hp)) : Option Act) = some (Sum.inl (pc', ls', st', bc', bs', hp')) := by simp only [act, br, hj, icndB, decide_eq_true_eq, if_pos hc] at h; exact h
              cases h1
              exact hk.go (fun r _ => ok_tl (ok_tl r)) (fun H locs lsr ad cells slots hL kk => lv_icmp_lt hx hb hd (jmp_spec hj) (fun _ => kk) (fun hn => absurd hc hn))
            · have h1 : (some (Sum.inl (pc + 3, ls, st, bc, bs, hp)) : Option Act) = some (Sum.inl (pc', ls', st', bc', bs', hp')) := by simp only [act, br, hj, icndB, decide_eq_true_eq, if_neg hc] at h; exact h
              cases h1
              exact hk.go (fun r _ => ok_tl (ok_tl r)) (fun H locs lsr ad cells slots hL kk => lv_icmp_lt hx hb hd (jmp_spec hj) (fun hn => absurd hn hc) (fun _ => kk))
        | _ => exact nos h
    | _ => exact nos h
theorem n_if_icmp_ge {off : Int} (hC : Cx p l R s m meth c k lo D tA) (hd : decode (mB k) pc = .ok ((.if_icmp .ge off), 3)) (h : act k (.if_icmp .ge off) pc ls st bc bs hp = some (.inl (pc', ls', st', bc', bs', hp'))) (hk : Wg p l e R s m args below meth c Q D tA lo k ad0 n0 pc' ls' st' bc' bs' hp') : Wg p l e R s m args below meth c Q D tA lo k ad0 n0 pc ls st bc bs hp := by
  obtain ⟨⟨hx, hb, hown, hml⟩, ⟨hlk, hr, hmn, hxt⟩, hF, hZ, hlo, hrm, htr⟩ := hC
  cases st with
  | nil => exact nos h
  | cons v0 st =>
    cases v0 with
    | int y =>
      cases st with
      | nil => exact nos h
      | cons v1 st =>
        cases v1 with
        | int x =>
          cases hj : jmp pc off with
          | none => simp only [act, br, hj] at h; exact nos h
          | some t =>
            by_cases hc : y ≤ x
            · have h1 : (some (Sum.inl (t, ls, st, bc, bs, hp)) : Option Act) = some (Sum.inl (pc', ls', st', bc', bs', hp')) := by simp only [act, br, hj, icndB, decide_eq_true_eq, if_pos hc] at h; exact h
              cases h1
              exact hk.go (fun r _ => ok_tl (ok_tl r)) (fun H locs lsr ad cells slots hL kk => lv_icmp_ge hx hb hd (jmp_spec hj) (fun _ => kk) (fun hn => absurd hc hn))
            · have h1 : (some (Sum.inl (pc + 3, ls, st, bc, bs, hp)) : Option Act) = some (Sum.inl (pc', ls', st', bc', bs', hp')) := by simp only [act, br, hj, icndB, decide_eq_true_eq, if_neg hc] at h; exact h
              cases h1
              exact hk.go (fun r _ => ok_tl (ok_tl r)) (fun H locs lsr ad cells slots hL kk => lv_icmp_ge hx hb hd (jmp_spec hj) (fun hn => absurd hn hc) (fun _ => kk))
        | _ => exact nos h
    | _ => exact nos h
theorem n_if_icmp_gt {off : Int} (hC : Cx p l R s m meth c k lo D tA) (hd : decode (mB k) pc = .ok ((.if_icmp .gt off), 3)) (h : act k (.if_icmp .gt off) pc ls st bc bs hp = some (.inl (pc', ls', st', bc', bs', hp'))) (hk : Wg p l e R s m args below meth c Q D tA lo k ad0 n0 pc' ls' st' bc' bs' hp') : Wg p l e R s m args below meth c Q D tA lo k ad0 n0 pc ls st bc bs hp := by
  obtain ⟨⟨hx, hb, hown, hml⟩, ⟨hlk, hr, hmn, hxt⟩, hF, hZ, hlo, hrm, htr⟩ := hC
  cases st with
  | nil => exact nos h
  | cons v0 st =>
    cases v0 with
    | int y =>
      cases st with
      | nil => exact nos h
      | cons v1 st =>
        cases v1 with
        | int x =>
          cases hj : jmp pc off with
          | none => simp only [act, br, hj] at h; exact nos h
          | some t =>
            by_cases hc : y < x
            · have h1 : (some (Sum.inl (t, ls, st, bc, bs, hp)) : Option Act) = some (Sum.inl (pc', ls', st', bc', bs', hp')) := by simp only [act, br, hj, icndB, decide_eq_true_eq, if_pos hc] at h; exact h
              cases h1
              exact hk.go (fun r _ => ok_tl (ok_tl r)) (fun H locs lsr ad cells slots hL kk => lv_icmp_gt hx hb hd (jmp_spec hj) (fun _ => kk) (fun hn => absurd hc hn))
            · have h1 : (some (Sum.inl (pc + 3, ls, st, bc, bs, hp)) : Option Act) = some (Sum.inl (pc', ls', st', bc', bs', hp')) := by simp only [act, br, hj, icndB, decide_eq_true_eq, if_neg hc] at h; exact h
              cases h1
              exact hk.go (fun r _ => ok_tl (ok_tl r)) (fun H locs lsr ad cells slots hL kk => lv_icmp_gt hx hb hd (jmp_spec hj) (fun hn => absurd hn hc) (fun _ => kk))
        | _ => exact nos h
    | _ => exact nos h
theorem n_if_icmp_le {off : Int} (hC : Cx p l R s m meth c k lo D tA) (hd : decode (mB k) pc = .ok ((.if_icmp .le off), 3)) (h : act k (.if_icmp .le off) pc ls st bc bs hp = some (.inl (pc', ls', st', bc', bs', hp'))) (hk : Wg p l e R s m args below meth c Q D tA lo k ad0 n0 pc' ls' st' bc' bs' hp') : Wg p l e R s m args below meth c Q D tA lo k ad0 n0 pc ls st bc bs hp := by
  obtain ⟨⟨hx, hb, hown, hml⟩, ⟨hlk, hr, hmn, hxt⟩, hF, hZ, hlo, hrm, htr⟩ := hC
  cases st with
  | nil => exact nos h
  | cons v0 st =>
    cases v0 with
    | int y =>
      cases st with
      | nil => exact nos h
      | cons v1 st =>
        cases v1 with
        | int x =>
          cases hj : jmp pc off with
          | none => simp only [act, br, hj] at h; exact nos h
          | some t =>
            by_cases hc : x ≤ y
            · have h1 : (some (Sum.inl (t, ls, st, bc, bs, hp)) : Option Act) = some (Sum.inl (pc', ls', st', bc', bs', hp')) := by simp only [act, br, hj, icndB, decide_eq_true_eq, if_pos hc] at h; exact h
              cases h1
              exact hk.go (fun r _ => ok_tl (ok_tl r)) (fun H locs lsr ad cells slots hL kk => lv_icmp_le hx hb hd (jmp_spec hj) (fun _ => kk) (fun hn => absurd hc hn))
            · have h1 : (some (Sum.inl (pc + 3, ls, st, bc, bs, hp)) : Option Act) = some (Sum.inl (pc', ls', st', bc', bs', hp')) := by simp only [act, br, hj, icndB, decide_eq_true_eq, if_neg hc] at h; exact h
              cases h1
              exact hk.go (fun r _ => ok_tl (ok_tl r)) (fun H locs lsr ad cells slots hL kk => lv_icmp_le hx hb hd (jmp_spec hj) (fun hn => absurd hn hc) (fun _ => kk))
        | _ => exact nos h
    | _ => exact nos h
theorem n_tsw {df lw hg : Int} {offs : Array Int} (hC : Cx p l R s m meth c k lo D tA) (hd : decode (mB k) pc = .ok ((.tableswitch df lw hg offs), 191)) (h : act k (.tableswitch df lw hg offs) pc ls st bc bs hp = some (.inl (pc', ls', st', bc', bs', hp'))) (hk : Wg p l e R s m args below meth c Q D tA lo k ad0 n0 pc' ls' st' bc' bs' hp') : Wg p l e R s m args below meth c Q D tA lo k ad0 n0 pc ls st bc bs hp := by
  obtain ⟨⟨hx, hb, hown, hml⟩, ⟨hlk, hr, hmn, hxt⟩, hF, hZ, hlo, hrm, htr⟩ := hC
  cases st with
  | nil => exact nos h
  | cons v0 st =>
    cases v0 with
    | int x =>
      by_cases hc : x.toInt < lw ∨ hg < x.toInt
      · cases hj : jmp pc df with
        | none => simp only [act, if_pos hc, hj] at h; exact nos h
        | some t =>
          have h1 : (some (Sum.inl (t, ls, st, bc, bs, hp)) : Option Act) = some (Sum.inl (pc', ls', st', bc', bs', hp')) := by simp only [act, if_pos hc, hj] at h; exact h
          cases h1
          exact hk.go (fun r _ => ok_tl r) (fun H locs lsr ad cells slots hL kk => lv_tableOut hx hb hd hc (jmp_spec hj) kk)
      · cases ho : offs[(x.toInt - lw).toNat]? with
        | none => simp only [act, if_neg hc, ho] at h; exact nos h
        | some off =>
          cases hj : jmp pc off with
          | none => simp only [act, if_neg hc, ho, hj] at h; exact nos h
          | some t =>
            have h1 : (some (Sum.inl (t, ls, st, bc, bs, hp)) : Option Act) = some (Sum.inl (pc', ls', st', bc', bs', hp')) := by simp only [act, if_neg hc, ho, hj] at h; exact h
            cases h1
            exact hk.go (fun r _ => ok_tl r) (fun H locs lsr ad cells slots hL kk => lv_tableIn hx hb hd (fun q => hc (Or.inl q)) (fun q => hc (Or.inr q)) ho (jmp_spec hj) kk)
    | _ => exact nos h
end STEP
end
section
section MEM
variable {p : Program} {l : Launch} {e : Env} {R : Room} {s : State} {m : MethodId} {args : Array Value} {below : List Frame} {meth : Method} {c : Code} {Q : State → Prop} {D : va_G} {tA : Nat → ClassId} {lo k : Nat} {ad0 : Nat → Nat} {n0 : Nat}
variable {pc pc' : Nat} {ls ls' st st' : List Value} {bc bs bc' bs' : Nat} {hp hp' : Hp}
theorem lookup_mem {α : Type} {l : List (Nat × α)} {x : Nat} {v : α} (h : l.lookup x = some v) : (x, v) ∈ l := by
  induction l with
  | nil => cases h
  | cons a l ih =>
    obtain ⟨y, w⟩ := a
    rw [List.lookup_cons] at h
    by_cases hxy : x = y
    · subst hxy
      rw [show (x == x) = true from beq_self_eq_true x] at h
      cases h
      exact List.mem_cons_self
    · rw [show (x == y) = false from beq_eq_false_iff_ne.mpr hxy] at h
      exact List.mem_cons_of_mem _ (ih h)
theorem mO_lt (k : Nat) : mO k < 11 := by
  by_cases h : k < 233
  · exact (meth_ok4 k h).2
  · have : mRow k = MX0_init := by
      unfold mRow
      rw [List.getD_eq_getElem?_getD, List.getElem?_eq_none (by rw [show methT.length = 233 from rfl]; omega)]
      rfl
    unfold mO
    rw [this]
    decide
theorem fld_spec {k x ci j : Nat} (h : fldOf k x = some (ci, j)) : (ci < 9 ∧ j < nF ci) ∧ Cond.fieldLink (ownN (mO k)) x (tF ci j).1 (tF ci j).2.1 (tF ci j).2.2.1 ∈ TW := by
  obtain ⟨h1, h2⟩ := fld_tab (mO k) (mO_lt k)
  obtain ⟨i, hi⟩ := zip_in h1 (lookup_mem h)
  obtain ⟨h3, h4⟩ := h2 _ hi
  exact ⟨h3, atP_in h4 _ List.mem_cons_self⟩
theorem cls_lay {ci : Nat} (h : ci < 9) : ∀ w ∈ u_ws (rF ci) (tF ci) (nF ci), w ∈ TW := fun w hw => atP_in (cls_tab ci h) w (List.mem_append_left _ hw)
theorem isObj_spec {hp : Hp} {a ci : Nat} {fs : List Value} (h : isObj hp a ci = some fs) : hp.2 a = .inr (ci, fs) ∧ 1 ≤ a ∧ a ≤ hp.1 := by
  unfold isObj at h
  cases hh : hp.2 a with
  | inl x => rw [hh] at h; cases h
  | inr y =>
    obtain ⟨c0, f0⟩ := y
    rw [hh] at h
    dsimp only at h
    by_cases hc : c0 = ci ∧ 1 ≤ a ∧ a ≤ hp.1
    · rw [if_pos hc] at h
      cases h
      obtain ⟨rfl, h2, h3⟩ := hc
      exact ⟨rfl, h2, h3⟩
    · rw [if_neg hc] at h; cases h
theorem fits_tr {ad : Nat → Nat} {ty : FieldType} {v : Value} (h : fits ty v = true) : fits ty (tr ad v) = true := by
  cases v <;> first | exact h | (cases ty <;> exact h)
theorem narrow_tr {ad : Nat → Nat} {ty : FieldType} {v : Value} (h : narrow ty v = v) : narrow ty (tr ad v) = tr ad v := by
  cases v <;> first | exact h | (cases ty <;> rfl)
theorem set_map {ad : Nat → Nat} {fs : List Value} {j : Nat} {v : Value} : (fs.map (tr ad)).set j (tr ad v) = (fs.set j v).map (tr ad) := by rw [List.map_set]
theorem set_0 {hp : Hp} {a : Nat} {e : va_E} (h : 1 ≤ a) : (setHp hp a e).2 0 = hp.2 0 := by
  have : ¬ 0 = a := by omega
  simp only [setHp, va_up, if_neg this]
theorem lo_own {lo : Nat} {H0 : Heap} (h : lo ≤ H0.size) : ∀ q, H0.size ≤ q → loA lo q := fun q hq => Nat.le_trans h hq
theorem n_getfield {x : Nat} (hC : Cx p l R s m meth c k lo D tA) (hd : decode (mB k) pc = .ok ((.getfield x), 3)) (h : act k (.getfield x) pc ls st bc bs hp = some (.inl (pc', ls', st', bc', bs', hp'))) (hk : Wg p l e R s m args below meth c Q D tA lo k ad0 n0 pc' ls' st' bc' bs' hp') : Wg p l e R s m args below meth c Q D tA lo k ad0 n0 pc ls st bc bs hp := by
  obtain ⟨⟨hx, hb, hown, hml⟩, ⟨hlk, hr, hmn, hxt⟩, hF, hZ, hlo, hrm, htr⟩ := hC
  cases st with
  | nil => exact nos h
  | cons v0 st =>
    cases v0 with
    | ref a =>
      cases hf : fldOf k x with
      | none => simp only [act, hf] at h; exact nos h
      | some q =>
        obtain ⟨ci, j⟩ := q
        cases ho : isObj hp a ci with
        | none => simp only [act, hf, ho] at h; exact nos h
        | some fs =>
          cases hv : fs[j]? with
          | none => simp only [act, hf, ho, hv] at h; exact nos h
          | some v =>
            have h1 : (some (Sum.inl (pc + 3, ls, v :: st, bc, bs, hp)) : Option Act) = some (Sum.inl (pc', ls', st', bc', bs', hp')) := by simp only [act, hf, ho, hv] at h; exact h
            cases h1
            intro H locs lsr ad cells slots hR z1 z2
            obtain ⟨⟨hP, hD, hS⟩, r2, ⟨r3, r4⟩, r5, r6⟩ := hR
            obtain ⟨⟨f1, f2⟩, f3⟩ := fld_spec hf
            obtain ⟨o1, o2, o3⟩ := isObj_spec ho
            have he := wl_get (ad := ad) (tA := tA) o2 o3
            rw [o1] at he
            have hok : okv hp.1 v := by have := r2 a o2 o3; rw [o1] at this; exact this v (List.mem_of_getElem? hv)
            exact va_get (D := D) (ci := ci) (v := tr ad v) (C := rF ci) (T := tF ci) (N := nF ci) hx hb (Ts := TW) hF.words (cls_lay f1) hown hF.1 hP (a - 1) he (cls_row ci f1) j f2 (hF.word f3) (fun _ q => q) (by rw [List.getElem?_map, hv]; rfl) hd (hk H locs lsr ad cells slots ⟨⟨hP, hD, hS⟩, r2, ⟨ok_cs hok (ok_tl r3), r4⟩, r5, r6⟩ z1 z2)
    | _ => exact nos h
theorem n_putfield {x : Nat} (hC : Cx p l R s m meth c k lo D tA) (hd : decode (mB k) pc = .ok ((.putfield x), 3)) (h : act k (.putfield x) pc ls st bc bs hp = some (.inl (pc', ls', st', bc', bs', hp'))) (hk : Wg p l e R s m args below meth c Q D tA lo k ad0 n0 pc' ls' st' bc' bs' hp') : Wg p l e R s m args below meth c Q D tA lo k ad0 n0 pc ls st bc bs hp := by
  obtain ⟨⟨hx, hb, hown, hml⟩, ⟨hlk, hr, hmn, hxt⟩, hF, hZ, hlo, hrm, htr⟩ := hC
  cases st with
  | nil => exact nos h
  | cons v st =>
    cases st with
    | nil => exact nos h
    | cons v1 st =>
      cases v1 with
      | ref a =>
        cases hf : fldOf k x with
        | none => simp only [act, hf] at h; exact nos h
        | some q =>
          obtain ⟨ci, j⟩ := q
          cases ho : isObj hp a ci with
          | none => simp only [act, hf, ho] at h; exact nos h
          | some fs =>
            by_cases hc : j < fs.length ∧ putOK k ci j v = true
            · have h1 : (some (Sum.inl (pc + 3, ls, st, bc, bs, setHp hp a (.inr (ci, fs.set j v)))) : Option Act) = some (Sum.inl (pc', ls', st', bc', bs', hp')) := by simp only [act, hf, ho, if_pos hc] at h; exact h
              cases h1
              intro H locs lsr ad cells slots hR z1 z2
              obtain ⟨⟨hP, hD, hS⟩, r2, ⟨r3, r4⟩, r5, r6⟩ := hR
              obtain ⟨⟨f1, f2⟩, f3⟩ := fld_spec hf
              obtain ⟨o1, o2, o3⟩ := isObj_spec ho
              have he := wl_get (ad := ad) (tA := tA) o2 o3
              rw [o1] at he
              obtain ⟨hl, hq⟩ := hc
              simp only [putOK, Bool.and_eq_true, Bool.or_eq_true, decide_eq_true_eq] at hq
              obtain ⟨⟨hfin, hnr⟩, hft⟩ := hq
              have hokA := r2 a o2 o3
              rw [o1] at hokA
              have hok2 : okH (setHp hp a (.inr (ci, fs.set j v))) := okH_set r2 (ok_set (ok_hd r3) hokA)
              obtain ⟨r6a, L, xs, r6b, r6c⟩ := r6
              have fin : ∀ (H1 : Heap) (locs1 : List Loc), va_P D vw9 ((wl ad tA hp).set (a - 1) (ad a, .inr (ci, (fs.map (tr ad)).set j (tr ad v)))) H1 → va_D (loA lo) ((wl ad tA hp).set (a - 1) (ad a, .inr (ci, (fs.map (tr ad)).set j (tr ad v)))) → va_S (loA lo) s.heap H1 locs1 → W p l e R s m args below meth c H1 locs1 cells slots Q (F0 m (pc + 3) lsr (st'.map (tr ad))) := by
                intro H1 locs1 hP1 hD1 hS1
                rw [set_map, show (Sum.inr (ci, (fs.set j v).map (tr ad)) : va_E) = trE ad tA (.inr (ci, fs.set j v)) from rfl, ← wl_set o2 o3] at hP1 hD1
                exact hk H1 locs1 lsr ad cells slots ⟨⟨hP1, hD1, hS1⟩, hok2, ⟨ok_tl (ok_tl r3), r4⟩, r5, r6a, L, xs, (set_0 o2).trans r6b, r6c⟩ z1 z2
              by_cases hfi : (tF ci j).2.2.2 = false
              · exact va_put (D := D) (ci := ci) (v := tr ad v) (ty := yF ci j) (C := rF ci) (T := tF ci) (N := nF ci) hx hb (Ts := TW) hF.words (cls_lay f1) (yF ci) (cls_ty ci f1) (cls_nm ci f1) hown hF.1 hP hD hS (a - 1) he (cls_row ci f1) j f2 (hF.word f3) (fun _ q => q) hfi (cls_ty ci f1 j f2) (narrow_tr hnr) (fits_tr hft) (by rw [List.length_map]; exact hl) hd fin
              · obtain ⟨g1, g2⟩ := hfin.resolve_left hfi
                exact va_putF (D := D) (ci := ci) (v := tr ad v) (ty := yF ci j) (C := rF ci) (T := tF ci) (N := nF ci) hx hb (Ts := TW) hF.words (cls_lay f1) (yF ci) (cls_ty ci f1) (cls_nm ci f1) hown hF.1 hP hD hS (a - 1) he (cls_row ci f1) j f2 (hF.word f3) (fun _ q => q) (by cases hz : (tF ci j).2.2.2 with | true => rfl | false => exact absurd hz hfi) (hmn.trans g1) g2 (cls_ty ci f1 j f2) (narrow_tr hnr) (fits_tr hft) (by rw [List.length_map]; exact hl) hd fin
            · simp only [act, hf, ho, if_neg hc] at h
              exact nos h
      | _ => exact nos h
theorem n_iaload (hC : Cx p l R s m meth c k lo D tA) (hd : decode (mB k) pc = .ok (.iaload, 1)) (h : act k .iaload pc ls st bc bs hp = some (.inl (pc', ls', st', bc', bs', hp'))) (hk : Wg p l e R s m args below meth c Q D tA lo k ad0 n0 pc' ls' st' bc' bs' hp') : Wg p l e R s m args below meth c Q D tA lo k ad0 n0 pc ls st bc bs hp := by
  obtain ⟨⟨hx, hb, hown, hml⟩, ⟨hlk, hr, hmn, hxt⟩, hF, hZ, hlo, hrm, htr⟩ := hC
  cases st with
  | nil => exact nos h
  | cons v0 st =>
    cases v0 with
    | int i =>
      cases st with
      | nil => exact nos h
      | cons v1 st =>
        cases v1 with
        | ref a =>
          cases hh : hp.2 a with
          | inr y => simp only [act, hh] at h; exact nos h
          | inl y =>
            obtain ⟨t, n, f⟩ := y
            rcases f with f | f | f | f | f
            · by_cases hc : t = 0 ∧ a ≤ hp.1 ∧ ¬ (i < 0 ∨ n ≤ i.toNatClampNeg)
              · have h1 : (some (Sum.inl (pc + 1, ls, .int (f i.toNatClampNeg) :: st, bc, bs, hp)) : Option Act) = some (Sum.inl (pc', ls', st', bc', bs', hp')) := by simp only [act, hh, if_pos hc] at h; exact h
                cases h1
                intro H locs lsr ad cells slots hR z1 z2
                obtain ⟨⟨hP, hD, hS⟩, r2, ⟨r3, r4⟩, r5, r6⟩ := hR
                obtain ⟨rfl, o3, hin⟩ := hc
                have fin := hk H locs lsr ad cells slots ⟨⟨hP, hD, hS⟩, r2, ⟨ok_cs trivial (ok_tl (ok_tl r3)), r4⟩, r5, r6⟩ z1 z2
                by_cases ha : 1 ≤ a
                · have he := wl_get (ad := ad) (tA := tA) ha o3
                  rw [hh] at he
                  exact va_iald hx hb hF.1 hP (a - 1) 0 he rfl hin hd fin
                · have ha0 : a = 0 := Nat.lt_one_iff.mp (Nat.lt_of_not_le ha)
                  subst ha0
                  obtain ⟨-, L, xs, r6b, r6c, r6d⟩ := r6
                  rw [hh] at r6b
                  cases r6b
                  exact va_sld hx hb r6c (Nat.lt_of_lt_of_le r6d hlo) (fun q => absurd r6d (Nat.not_lt.mpr q)) hS hin hd fin
              · simp only [act, hh, if_neg hc] at h
                exact nos h
            · simp only [act, hh] at h; exact nos h
            · simp only [act, hh] at h; exact nos h
            · simp only [act, hh] at h; exact nos h
            · simp only [act, hh] at h; exact nos h
        | _ => exact nos h
    | _ => exact nos h
theorem n_iastore (hC : Cx p l R s m meth c k lo D tA) (hd : decode (mB k) pc = .ok (.iastore, 1)) (h : act k .iastore pc ls st bc bs hp = some (.inl (pc', ls', st', bc', bs', hp'))) (hk : Wg p l e R s m args below meth c Q D tA lo k ad0 n0 pc' ls' st' bc' bs' hp') : Wg p l e R s m args below meth c Q D tA lo k ad0 n0 pc ls st bc bs hp := by
  obtain ⟨⟨hx, hb, hown, hml⟩, ⟨hlk, hr, hmn, hxt⟩, hF, hZ, hlo, hrm, htr⟩ := hC
  cases st with
  | nil => exact nos h
  | cons v0 st =>
    cases v0 with
    | int x =>
      cases st with
      | nil => exact nos h
      | cons v1 st =>
        cases v1 with
        | int i =>
          cases st with
          | nil => exact nos h
          | cons v2 st =>
            cases v2 with
            | ref a =>
              cases hh : hp.2 a with
              | inr y => simp only [act, hh] at h; exact nos h
              | inl y =>
                obtain ⟨t, n, f⟩ := y
                rcases f with f | f | f | f | f
                · by_cases hc : t = 0 ∧ 1 ≤ a ∧ a ≤ hp.1 ∧ ¬ (i < 0 ∨ n ≤ i.toNatClampNeg)
                  · have h1 : (some (Sum.inl (pc + 1, ls, st, bc, bs, setHp hp a (Sum.inl (t, n, .inl (upd f i.toNatClampNeg x))))) : Option Act) = some (Sum.inl (pc', ls', st', bc', bs', hp')) := by simp only [act, hh, if_pos hc] at h; exact h
                    cases h1
                    intro H locs lsr ad cells slots hR z1 z2
                    obtain ⟨⟨hP, hD, hS⟩, r2, ⟨r3, r4⟩, r5, r6⟩ := hR
                    obtain ⟨rfl, o2, o3, hin⟩ := hc
                    have he := wl_get (ad := ad) (tA := tA) o2 o3
                    rw [hh] at he
                    obtain ⟨r6a, L, xs, r6b, r6c⟩ := r6
                    refine va_iast hx hb hF.1 hP hD hS (a - 1) 0 he rfl hin hd (fun H1 locs1 hP1 hD1 hS1 => ?_)
                    rw [show (Sum.inl (tA 0, n, .inl (upd f i.toNatClampNeg x)) : va_E) = trE ad tA (Sum.inl (0, n, .inl (upd f i.toNatClampNeg x))) from rfl, ← wl_set o2 o3] at hP1 hD1
                    exact hk H1 locs1 lsr ad cells slots ⟨⟨hP1, hD1, hS1⟩, okH_set r2 trivial, ⟨ok_tl (ok_tl (ok_tl r3)), r4⟩, r5, r6a, L, xs, ((set_0 o2).trans r6b), r6c⟩ z1 z2
                  · simp only [act, hh, if_neg hc] at h
                    exact nos h
                · simp only [act, hh] at h; exact nos h
                · simp only [act, hh] at h; exact nos h
                · simp only [act, hh] at h; exact nos h
                · simp only [act, hh] at h; exact nos h
            | _ => exact nos h
        | _ => exact nos h
    | _ => exact nos h
theorem n_baload (hC : Cx p l R s m meth c k lo D tA) (hd : decode (mB k) pc = .ok (.baload, 1)) (h : act k .baload pc ls st bc bs hp = some (.inl (pc', ls', st', bc', bs', hp'))) (hk : Wg p l e R s m args below meth c Q D tA lo k ad0 n0 pc' ls' st' bc' bs' hp') : Wg p l e R s m args below meth c Q D tA lo k ad0 n0 pc ls st bc bs hp := by
  obtain ⟨⟨hx, hb, hown, hml⟩, ⟨hlk, hr, hmn, hxt⟩, hF, hZ, hlo, hrm, htr⟩ := hC
  cases st with
  | nil => exact nos h
  | cons v0 st =>
    cases v0 with
    | int i =>
      cases st with
      | nil => exact nos h
      | cons v1 st =>
        cases v1 with
        | ref a =>
          cases hh : hp.2 a with
          | inr y => simp only [act, hh] at h; exact nos h
          | inl y =>
            obtain ⟨t, n, f⟩ := y
            rcases f with f | f | f | f | f
            · by_cases hc : t = 2 ∧ 1 ≤ a ∧ a ≤ hp.1 ∧ ¬ (i < 0 ∨ n ≤ i.toNatClampNeg)
              · have h1 : (some (Sum.inl (pc + 1, ls, .int (f i.toNatClampNeg) :: st, bc, bs, hp)) : Option Act) = some (Sum.inl (pc', ls', st', bc', bs', hp')) := by simp only [act, hh, if_pos hc] at h; exact h
                cases h1
                intro H locs lsr ad cells slots hR z1 z2
                obtain ⟨⟨hP, hD, hS⟩, r2, ⟨r3, r4⟩, r5, r6⟩ := hR
                obtain ⟨rfl, o2, o3, hin⟩ := hc
                have he := wl_get (ad := ad) (tA := tA) o2 o3
                rw [hh] at he
                exact va_zald hx hb hF.1 hP (a - 1) 2 he rfl hin hd (hk H locs lsr ad cells slots ⟨⟨hP, hD, hS⟩, r2, ⟨ok_cs trivial (ok_tl (ok_tl r3)), r4⟩, r5, r6⟩ z1 z2)
              · simp only [act, hh, if_neg hc] at h
                exact nos h
            · simp only [act, hh] at h; exact nos h
            · simp only [act, hh] at h; exact nos h
            · simp only [act, hh] at h; exact nos h
            · simp only [act, hh] at h; exact nos h
        | _ => exact nos h
    | _ => exact nos h
theorem n_bastore (hC : Cx p l R s m meth c k lo D tA) (hd : decode (mB k) pc = .ok (.bastore, 1)) (h : act k .bastore pc ls st bc bs hp = some (.inl (pc', ls', st', bc', bs', hp'))) (hk : Wg p l e R s m args below meth c Q D tA lo k ad0 n0 pc' ls' st' bc' bs' hp') : Wg p l e R s m args below meth c Q D tA lo k ad0 n0 pc ls st bc bs hp := by
  obtain ⟨⟨hx, hb, hown, hml⟩, ⟨hlk, hr, hmn, hxt⟩, hF, hZ, hlo, hrm, htr⟩ := hC
  cases st with
  | nil => exact nos h
  | cons v0 st =>
    cases v0 with
    | int x =>
      cases st with
      | nil => exact nos h
      | cons v1 st =>
        cases v1 with
        | int i =>
          cases st with
          | nil => exact nos h
          | cons v2 st =>
            cases v2 with
            | ref a =>
              cases hh : hp.2 a with
              | inr y => simp only [act, hh] at h; exact nos h
              | inl y =>
                obtain ⟨t, n, f⟩ := y
                rcases f with f | f | f | f | f
                · by_cases hc : t = 2 ∧ 1 ≤ a ∧ a ≤ hp.1 ∧ ¬ (i < 0 ∨ n ≤ i.toNatClampNeg)
                  · have h1 : (some (Sum.inl (pc + 1, ls, st, bc, bs, setHp hp a (Sum.inl (t, n, .inl (upd f i.toNatClampNeg (vp_nar .boolean x)))))) : Option Act) = some (Sum.inl (pc', ls', st', bc', bs', hp')) := by simp only [act, hh, if_pos hc] at h; exact h
                    cases h1
                    intro H locs lsr ad cells slots hR z1 z2
                    obtain ⟨⟨hP, hD, hS⟩, r2, ⟨r3, r4⟩, r5, r6⟩ := hR
                    obtain ⟨rfl, o2, o3, hin⟩ := hc
                    have he := wl_get (ad := ad) (tA := tA) o2 o3
                    rw [hh] at he
                    obtain ⟨r6a, L, xs, r6b, r6c⟩ := r6
                    refine va_zast hx hb hF.1 hP hD hS (a - 1) 2 he rfl hin hd (fun H1 locs1 hP1 hD1 hS1 => ?_)
                    rw [show (Sum.inl (tA 2, n, .inl (upd f i.toNatClampNeg (vp_nar .boolean x))) : va_E) = trE ad tA (Sum.inl (2, n, .inl (upd f i.toNatClampNeg (vp_nar .boolean x)))) from rfl, ← wl_set o2 o3] at hP1 hD1
                    exact hk H1 locs1 lsr ad cells slots ⟨⟨hP1, hD1, hS1⟩, okH_set r2 trivial, ⟨ok_tl (ok_tl (ok_tl r3)), r4⟩, r5, r6a, L, xs, ((set_0 o2).trans r6b), r6c⟩ z1 z2
                  · simp only [act, hh, if_neg hc] at h
                    exact nos h
                · simp only [act, hh] at h; exact nos h
                · simp only [act, hh] at h; exact nos h
                · simp only [act, hh] at h; exact nos h
                · simp only [act, hh] at h; exact nos h
            | _ => exact nos h
        | _ => exact nos h
    | _ => exact nos h
theorem n_faload (hC : Cx p l R s m meth c k lo D tA) (hd : decode (mB k) pc = .ok (.faload, 1)) (h : act k .faload pc ls st bc bs hp = some (.inl (pc', ls', st', bc', bs', hp'))) (hk : Wg p l e R s m args below meth c Q D tA lo k ad0 n0 pc' ls' st' bc' bs' hp') : Wg p l e R s m args below meth c Q D tA lo k ad0 n0 pc ls st bc bs hp := by
  obtain ⟨⟨hx, hb, hown, hml⟩, ⟨hlk, hr, hmn, hxt⟩, hF, hZ, hlo, hrm, htr⟩ := hC
  cases st with
  | nil => exact nos h
  | cons v0 st =>
    cases v0 with
    | int i =>
      cases st with
      | nil => exact nos h
      | cons v1 st =>
        cases v1 with
        | ref a =>
          cases hh : hp.2 a with
          | inr y => simp only [act, hh] at h; exact nos h
          | inl y =>
            obtain ⟨t, n, f⟩ := y
            rcases f with f | f | f | f | f
            · simp only [act, hh] at h; exact nos h
            · simp only [act, hh] at h; exact nos h
            · by_cases hc : t = 1 ∧ 1 ≤ a ∧ a ≤ hp.1 ∧ ¬ (i < 0 ∨ n ≤ i.toNatClampNeg)
              · have h1 : (some (Sum.inl (pc + 1, ls, .float (f i.toNatClampNeg) :: st, bc, bs, hp)) : Option Act) = some (Sum.inl (pc', ls', st', bc', bs', hp')) := by simp only [act, hh, if_pos hc] at h; exact h
                cases h1
                intro H locs lsr ad cells slots hR z1 z2
                obtain ⟨⟨hP, hD, hS⟩, r2, ⟨r3, r4⟩, r5, r6⟩ := hR
                obtain ⟨rfl, o2, o3, hin⟩ := hc
                have he := wl_get (ad := ad) (tA := tA) o2 o3
                rw [hh] at he
                exact va_fald hx hb hF.1 hP (a - 1) 1 he rfl hin hd (hk H locs lsr ad cells slots ⟨⟨hP, hD, hS⟩, r2, ⟨ok_cs trivial (ok_tl (ok_tl r3)), r4⟩, r5, r6⟩ z1 z2)
              · simp only [act, hh, if_neg hc] at h
                exact nos h
            · simp only [act, hh] at h; exact nos h
            · simp only [act, hh] at h; exact nos h
        | _ => exact nos h
    | _ => exact nos h
theorem n_fastore (hC : Cx p l R s m meth c k lo D tA) (hd : decode (mB k) pc = .ok (.fastore, 1)) (h : act k .fastore pc ls st bc bs hp = some (.inl (pc', ls', st', bc', bs', hp'))) (hk : Wg p l e R s m args below meth c Q D tA lo k ad0 n0 pc' ls' st' bc' bs' hp') : Wg p l e R s m args below meth c Q D tA lo k ad0 n0 pc ls st bc bs hp := by
  obtain ⟨⟨hx, hb, hown, hml⟩, ⟨hlk, hr, hmn, hxt⟩, hF, hZ, hlo, hrm, htr⟩ := hC
  cases st with
  | nil => exact nos h
  | cons v0 st =>
    cases v0 with
    | float x =>
      cases st with
      | nil => exact nos h
      | cons v1 st =>
        cases v1 with
        | int i =>
          cases st with
          | nil => exact nos h
          | cons v2 st =>
            cases v2 with
            | ref a =>
              cases hh : hp.2 a with
              | inr y => simp only [act, hh] at h; exact nos h
              | inl y =>
                obtain ⟨t, n, f⟩ := y
                rcases f with f | f | f | f | f
                · simp only [act, hh] at h; exact nos h
                · simp only [act, hh] at h; exact nos h
                · by_cases hc : t = 1 ∧ 1 ≤ a ∧ a ≤ hp.1 ∧ ¬ (i < 0 ∨ n ≤ i.toNatClampNeg)
                  · have h1 : (some (Sum.inl (pc + 1, ls, st, bc, bs, setHp hp a (Sum.inl (t, n, .inr (.inr (.inl (vf_upd f i.toNatClampNeg x))))))) : Option Act) = some (Sum.inl (pc', ls', st', bc', bs', hp')) := by simp only [act, hh, if_pos hc] at h; exact h
                    cases h1
                    intro H locs lsr ad cells slots hR z1 z2
                    obtain ⟨⟨hP, hD, hS⟩, r2, ⟨r3, r4⟩, r5, r6⟩ := hR
                    obtain ⟨rfl, o2, o3, hin⟩ := hc
                    have he := wl_get (ad := ad) (tA := tA) o2 o3
                    rw [hh] at he
                    obtain ⟨r6a, L, xs, r6b, r6c⟩ := r6
                    refine va_fast hx hb hF.1 hP hD hS (a - 1) 1 he rfl hin hd (fun H1 locs1 hP1 hD1 hS1 => ?_)
                    rw [show (Sum.inl (tA 1, n, .inr (.inr (.inl (vf_upd f i.toNatClampNeg x)))) : va_E) = trE ad tA (Sum.inl (1, n, .inr (.inr (.inl (vf_upd f i.toNatClampNeg x))))) from rfl, ← wl_set o2 o3] at hP1 hD1
                    exact hk H1 locs1 lsr ad cells slots ⟨⟨hP1, hD1, hS1⟩, okH_set r2 trivial, ⟨ok_tl (ok_tl (ok_tl r3)), r4⟩, r5, r6a, L, xs, ((set_0 o2).trans r6b), r6c⟩ z1 z2
                  · simp only [act, hh, if_neg hc] at h
                    exact nos h
                · simp only [act, hh] at h; exact nos h
                · simp only [act, hh] at h; exact nos h
            | _ => exact nos h
        | _ => exact nos h
    | _ => exact nos h
theorem n_laload (hC : Cx p l R s m meth c k lo D tA) (hd : decode (mB k) pc = .ok (.laload, 1)) (h : act k .laload pc ls st bc bs hp = some (.inl (pc', ls', st', bc', bs', hp'))) (hk : Wg p l e R s m args below meth c Q D tA lo k ad0 n0 pc' ls' st' bc' bs' hp') : Wg p l e R s m args below meth c Q D tA lo k ad0 n0 pc ls st bc bs hp := by
  obtain ⟨⟨hx, hb, hown, hml⟩, ⟨hlk, hr, hmn, hxt⟩, hF, hZ, hlo, hrm, htr⟩ := hC
  cases st with
  | nil => exact nos h
  | cons v0 st =>
    cases v0 with
    | int i =>
      cases st with
      | nil => exact nos h
      | cons v1 st =>
        cases v1 with
        | ref a =>
          cases hh : hp.2 a with
          | inr y => simp only [act, hh] at h; exact nos h
          | inl y =>
            obtain ⟨t, n, f⟩ := y
            rcases f with f | f | f | f | f
            · simp only [act, hh] at h; exact nos h
            · by_cases hc : t = 3 ∧ 1 ≤ a ∧ a ≤ hp.1 ∧ ¬ (i < 0 ∨ n ≤ i.toNatClampNeg)
              · have h1 : (some (Sum.inl (pc + 1, ls, .long (f i.toNatClampNeg) :: st, bc, bs, hp)) : Option Act) = some (Sum.inl (pc', ls', st', bc', bs', hp')) := by simp only [act, hh, if_pos hc] at h; exact h
                cases h1
                intro H locs lsr ad cells slots hR z1 z2
                obtain ⟨⟨hP, hD, hS⟩, r2, ⟨r3, r4⟩, r5, r6⟩ := hR
                obtain ⟨rfl, o2, o3, hin⟩ := hc
                have he := wl_get (ad := ad) (tA := tA) o2 o3
                rw [hh] at he
                exact va_lald hx hb hF.1 hP (a - 1) 3 he rfl hin hd (hk H locs lsr ad cells slots ⟨⟨hP, hD, hS⟩, r2, ⟨ok_cs trivial (ok_tl (ok_tl r3)), r4⟩, r5, r6⟩ z1 z2)
              · simp only [act, hh, if_neg hc] at h
                exact nos h
            · simp only [act, hh] at h; exact nos h
            · simp only [act, hh] at h; exact nos h
            · simp only [act, hh] at h; exact nos h
        | _ => exact nos h
    | _ => exact nos h
theorem n_lastore (hC : Cx p l R s m meth c k lo D tA) (hd : decode (mB k) pc = .ok (.lastore, 1)) (h : act k .lastore pc ls st bc bs hp = some (.inl (pc', ls', st', bc', bs', hp'))) (hk : Wg p l e R s m args below meth c Q D tA lo k ad0 n0 pc' ls' st' bc' bs' hp') : Wg p l e R s m args below meth c Q D tA lo k ad0 n0 pc ls st bc bs hp := by
  obtain ⟨⟨hx, hb, hown, hml⟩, ⟨hlk, hr, hmn, hxt⟩, hF, hZ, hlo, hrm, htr⟩ := hC
  cases st with
  | nil => exact nos h
  | cons v0 st =>
    cases v0 with
    | long x =>
      cases st with
      | nil => exact nos h
      | cons v1 st =>
        cases v1 with
        | int i =>
          cases st with
          | nil => exact nos h
          | cons v2 st =>
            cases v2 with
            | ref a =>
              cases hh : hp.2 a with
              | inr y => simp only [act, hh] at h; exact nos h
              | inl y =>
                obtain ⟨t, n, f⟩ := y
                rcases f with f | f | f | f | f
                · simp only [act, hh] at h; exact nos h
                · by_cases hc : t = 3 ∧ 1 ≤ a ∧ a ≤ hp.1 ∧ ¬ (i < 0 ∨ n ≤ i.toNatClampNeg)
                  · have h1 : (some (Sum.inl (pc + 1, ls, st, bc, bs, setHp hp a (Sum.inl (t, n, .inr (.inl (vp_updL f i.toNatClampNeg x)))))) : Option Act) = some (Sum.inl (pc', ls', st', bc', bs', hp')) := by simp only [act, hh, if_pos hc] at h; exact h
                    cases h1
                    intro H locs lsr ad cells slots hR z1 z2
                    obtain ⟨⟨hP, hD, hS⟩, r2, ⟨r3, r4⟩, r5, r6⟩ := hR
                    obtain ⟨rfl, o2, o3, hin⟩ := hc
                    have he := wl_get (ad := ad) (tA := tA) o2 o3
                    rw [hh] at he
                    obtain ⟨r6a, L, xs, r6b, r6c⟩ := r6
                    refine va_last hx hb hF.1 hP hD hS (a - 1) 3 he rfl hin hd (fun H1 locs1 hP1 hD1 hS1 => ?_)
                    rw [show (Sum.inl (tA 3, n, .inr (.inl (vp_updL f i.toNatClampNeg x))) : va_E) = trE ad tA (Sum.inl (3, n, .inr (.inl (vp_updL f i.toNatClampNeg x)))) from rfl, ← wl_set o2 o3] at hP1 hD1
                    exact hk H1 locs1 lsr ad cells slots ⟨⟨hP1, hD1, hS1⟩, okH_set r2 trivial, ⟨ok_tl (ok_tl (ok_tl r3)), r4⟩, r5, r6a, L, xs, ((set_0 o2).trans r6b), r6c⟩ z1 z2
                  · simp only [act, hh, if_neg hc] at h
                    exact nos h
                · simp only [act, hh] at h; exact nos h
                · simp only [act, hh] at h; exact nos h
                · simp only [act, hh] at h; exact nos h
            | _ => exact nos h
        | _ => exact nos h
    | _ => exact nos h
theorem n_daload (hC : Cx p l R s m meth c k lo D tA) (hd : decode (mB k) pc = .ok (.daload, 1)) (h : act k .daload pc ls st bc bs hp = some (.inl (pc', ls', st', bc', bs', hp'))) (hk : Wg p l e R s m args below meth c Q D tA lo k ad0 n0 pc' ls' st' bc' bs' hp') : Wg p l e R s m args below meth c Q D tA lo k ad0 n0 pc ls st bc bs hp := by
  obtain ⟨⟨hx, hb, hown, hml⟩, ⟨hlk, hr, hmn, hxt⟩, hF, hZ, hlo, hrm, htr⟩ := hC
  cases st with
  | nil => exact nos h
  | cons v0 st =>
    cases v0 with
    | int i =>
      cases st with
      | nil => exact nos h
      | cons v1 st =>
        cases v1 with
        | ref a =>
          cases hh : hp.2 a with
          | inr y => simp only [act, hh] at h; exact nos h
          | inl y =>
            obtain ⟨t, n, f⟩ := y
            rcases f with f | f | f | f | f
            · simp only [act, hh] at h; exact nos h
            · simp only [act, hh] at h; exact nos h
            · simp only [act, hh] at h; exact nos h
            · by_cases hc : t = 4 ∧ 1 ≤ a ∧ a ≤ hp.1 ∧ ¬ (i < 0 ∨ n ≤ i.toNatClampNeg)
              · have h1 : (some (Sum.inl (pc + 1, ls, .double (f i.toNatClampNeg) :: st, bc, bs, hp)) : Option Act) = some (Sum.inl (pc', ls', st', bc', bs', hp')) := by simp only [act, hh, if_pos hc] at h; exact h
                cases h1
                intro H locs lsr ad cells slots hR z1 z2
                obtain ⟨⟨hP, hD, hS⟩, r2, ⟨r3, r4⟩, r5, r6⟩ := hR
                obtain ⟨rfl, o2, o3, hin⟩ := hc
                have he := wl_get (ad := ad) (tA := tA) o2 o3
                rw [hh] at he
                exact va_dald hx hb hF.1 hP (a - 1) 4 he rfl hin hd (hk H locs lsr ad cells slots ⟨⟨hP, hD, hS⟩, r2, ⟨ok_cs trivial (ok_tl (ok_tl r3)), r4⟩, r5, r6⟩ z1 z2)
              · simp only [act, hh, if_neg hc] at h
                exact nos h
            · simp only [act, hh] at h; exact nos h
        | _ => exact nos h
    | _ => exact nos h
theorem n_dastore (hC : Cx p l R s m meth c k lo D tA) (hd : decode (mB k) pc = .ok (.dastore, 1)) (h : act k .dastore pc ls st bc bs hp = some (.inl (pc', ls', st', bc', bs', hp'))) (hk : Wg p l e R s m args below meth c Q D tA lo k ad0 n0 pc' ls' st' bc' bs' hp') : Wg p l e R s m args below meth c Q D tA lo k ad0 n0 pc ls st bc bs hp := by
  obtain ⟨⟨hx, hb, hown, hml⟩, ⟨hlk, hr, hmn, hxt⟩, hF, hZ, hlo, hrm, htr⟩ := hC
  cases st with
  | nil => exact nos h
  | cons v0 st =>
    cases v0 with
    | double x =>
      cases st with
      | nil => exact nos h
      | cons v1 st =>
        cases v1 with
        | int i =>
          cases st with
          | nil => exact nos h
          | cons v2 st =>
            cases v2 with
            | ref a =>
              cases hh : hp.2 a with
              | inr y => simp only [act, hh] at h; exact nos h
              | inl y =>
                obtain ⟨t, n, f⟩ := y
                rcases f with f | f | f | f | f
                · simp only [act, hh] at h; exact nos h
                · simp only [act, hh] at h; exact nos h
                · simp only [act, hh] at h; exact nos h
                · by_cases hc : t = 4 ∧ 1 ≤ a ∧ a ≤ hp.1 ∧ ¬ (i < 0 ∨ n ≤ i.toNatClampNeg)
                  · have h1 : (some (Sum.inl (pc + 1, ls, st, bc, bs, setHp hp a (Sum.inl (t, n, .inr (.inr (.inr (.inl (vf_upd f i.toNatClampNeg x)))))))) : Option Act) = some (Sum.inl (pc', ls', st', bc', bs', hp')) := by simp only [act, hh, if_pos hc] at h; exact h
                    cases h1
                    intro H locs lsr ad cells slots hR z1 z2
                    obtain ⟨⟨hP, hD, hS⟩, r2, ⟨r3, r4⟩, r5, r6⟩ := hR
                    obtain ⟨rfl, o2, o3, hin⟩ := hc
                    have he := wl_get (ad := ad) (tA := tA) o2 o3
                    rw [hh] at he
                    obtain ⟨r6a, L, xs, r6b, r6c⟩ := r6
                    refine va_dast hx hb hF.1 hP hD hS (a - 1) 4 he rfl hin hd (fun H1 locs1 hP1 hD1 hS1 => ?_)
                    rw [show (Sum.inl (tA 4, n, .inr (.inr (.inr (.inl (vf_upd f i.toNatClampNeg x))))) : va_E) = trE ad tA (Sum.inl (4, n, .inr (.inr (.inr (.inl (vf_upd f i.toNatClampNeg x)))))) from rfl, ← wl_set o2 o3] at hP1 hD1
                    exact hk H1 locs1 lsr ad cells slots ⟨⟨hP1, hD1, hS1⟩, okH_set r2 trivial, ⟨ok_tl (ok_tl (ok_tl r3)), r4⟩, r5, r6a, L, xs, ((set_0 o2).trans r6b), r6c⟩ z1 z2
                  · simp only [act, hh, if_neg hc] at h
                    exact nos h
                · simp only [act, hh] at h; exact nos h
            | _ => exact nos h
        | _ => exact nos h
    | _ => exact nos h
theorem tag_ty {tA : Nat → ClassId} {t : Nat} (h5 : 5 ≤ t) (h8 : t ≤ 8) : ∃ C : String, (tysOf tA)[t]? = some (tA t, .object C) := by
  rcases (show t = 5 ∨ t = 6 ∨ t = 7 ∨ t = 8 by omega) with rfl | rfl | rfl | rfl
  · exact ⟨_, rfl⟩
  · exact ⟨_, rfl⟩
  · exact ⟨_, rfl⟩
  · exact ⟨_, rfl⟩
theorem tag_any {tA : Nat → ClassId} {t : Nat} (h8 : t ≤ 8) : ∃ ty : FieldType, (tysOf tA)[t]? = some (tA t, ty) := by
  rcases (show t = 0 ∨ t = 1 ∨ t = 2 ∨ t = 3 ∨ t = 4 ∨ t = 5 ∨ t = 6 ∨ t = 7 ∨ t = 8 by omega) with rfl | rfl | rfl | rfl | rfl | rfl | rfl | rfl | rfl
  all_goals exact ⟨_, rfl⟩
theorem tag_cls {tA : Nat → ClassId} {t ci : Nat} (h : arTag ci = some t) : ci < 9 ∧ (tysOf tA)[t]? = some (tA t, .object (rF ci)) := by
  have h2 := lookup_mem h
  simp only [List.mem_cons, Prod.mk.injEq, List.not_mem_nil, or_false] at h2
  rcases h2 with ⟨rfl, rfl⟩ | ⟨rfl, rfl⟩ | ⟨rfl, rfl⟩ | ⟨rfl, rfl⟩
  all_goals exact ⟨by decide, rfl⟩
theorem n_aaload (hC : Cx p l R s m meth c k lo D tA) (hd : decode (mB k) pc = .ok (.aaload, 1)) (h : act k .aaload pc ls st bc bs hp = some (.inl (pc', ls', st', bc', bs', hp'))) (hk : Wg p l e R s m args below meth c Q D tA lo k ad0 n0 pc' ls' st' bc' bs' hp') : Wg p l e R s m args below meth c Q D tA lo k ad0 n0 pc ls st bc bs hp := by
  obtain ⟨⟨hx, hb, hown, hml⟩, ⟨hlk, hr, hmn, hxt⟩, hF, hZ, hlo, hrm, htr⟩ := hC
  cases st with
  | nil => exact nos h
  | cons v0 st =>
    cases v0 with
    | int i =>
      cases st with
      | nil => exact nos h
      | cons v1 st =>
        cases v1 with
        | ref a =>
          cases hh : hp.2 a with
          | inr y => simp only [act, hh] at h; exact nos h
          | inl y =>
            obtain ⟨t, n, f⟩ := y
            rcases f with f | f | f | f | f
            · simp only [act, hh] at h; exact nos h
            · simp only [act, hh] at h; exact nos h
            · simp only [act, hh] at h; exact nos h
            · simp only [act, hh] at h; exact nos h
            · by_cases hc : (5 ≤ t ∧ t ≤ 8) ∧ 1 ≤ a ∧ a ≤ hp.1 ∧ ¬ (i < 0 ∨ n ≤ i.toNatClampNeg)
              · cases hv : f i.toNatClampNeg with
                | none => simp only [act, hh, if_pos hc, hv] at h; exact nos h
                | some r =>
                  have h1 : (some (Sum.inl (pc + 1, ls, .ref r :: st, bc, bs, hp)) : Option Act) = some (Sum.inl (pc', ls', st', bc', bs', hp')) := by simp only [act, hh, if_pos hc, hv] at h; exact h
                  cases h1
                  intro H locs lsr ad cells slots hR z1 z2
                  obtain ⟨⟨hP, hD, hS⟩, r2, ⟨r3, r4⟩, r5, r6⟩ := hR
                  obtain ⟨⟨t5, t8⟩, o2, o3, hin⟩ := hc
                  have he := wl_get (ad := ad) (tA := tA) o2 o3
                  rw [hh] at he
                  obtain ⟨C, hC⟩ := tag_ty (tA := tA) t5 t8
                  have hok := r2 a o2 o3
                  rw [hh] at hok
                  refine va_aldq hx hb hF.1 hP (a - 1) t he hC hin hd ?_
                  rw [hv]
                  exact hk H locs lsr ad cells slots ⟨⟨hP, hD, hS⟩, r2, ⟨ok_cs (hok _ _ hv) (ok_tl (ok_tl r3)), r4⟩, r5, r6⟩ z1 z2
              · simp only [act, hh, if_neg hc] at h
                exact nos h
        | _ => exact nos h
    | _ => exact nos h
theorem n_aastore (hC : Cx p l R s m meth c k lo D tA) (hd : decode (mB k) pc = .ok (.aastore, 1)) (h : act k .aastore pc ls st bc bs hp = some (.inl (pc', ls', st', bc', bs', hp'))) (hk : Wg p l e R s m args below meth c Q D tA lo k ad0 n0 pc' ls' st' bc' bs' hp') : Wg p l e R s m args below meth c Q D tA lo k ad0 n0 pc ls st bc bs hp := by
  obtain ⟨⟨hx, hb, hown, hml⟩, ⟨hlk, hr, hmn, hxt⟩, hF, hZ, hlo, hrm, htr⟩ := hC
  cases st with
  | nil => exact nos h
  | cons v0 st =>
    cases v0 with
    | ref v =>
      cases st with
      | nil => exact nos h
      | cons v1 st =>
        cases v1 with
        | int i =>
          cases st with
          | nil => exact nos h
          | cons v2 st =>
            cases v2 with
            | ref a =>
              cases hh : hp.2 a with
              | inr y => simp only [act, hh] at h; exact nos h
              | inl y =>
                obtain ⟨t, n, f⟩ := y
                rcases f with f | f | f | f | f
                · simp only [act, hh] at h; exact nos h
                · simp only [act, hh] at h; exact nos h
                · simp only [act, hh] at h; exact nos h
                · simp only [act, hh] at h; exact nos h
                · cases hv : hp.2 v with
                  | inl y => simp only [act, hh, hv] at h; exact nos h
                  | inr y =>
                    obtain ⟨ci, vs⟩ := y
                    by_cases hc : arTag ci = some t ∧ (1 ≤ v ∧ v ≤ hp.1) ∧ 1 ≤ a ∧ a ≤ hp.1 ∧ ¬ (i < 0 ∨ n ≤ i.toNatClampNeg)
                    · have h1 : (some (Sum.inl (pc + 1, ls, st, bc, bs, setHp hp a (Sum.inl (t, n, .inr (.inr (.inr (.inr (va_up f i.toNatClampNeg (some v))))))))) : Option Act) = some (Sum.inl (pc', ls', st', bc', bs', hp')) := by simp only [act, hh, hv, if_pos hc] at h; exact h
                      cases h1
                      intro H locs lsr ad cells slots hR z1 z2
                      obtain ⟨⟨hP, hD, hS⟩, r2, ⟨r3, r4⟩, r5, r6⟩ := hR
                      obtain ⟨ht, ⟨v2, v3⟩, o2, o3, hin⟩ := hc
                      have he := wl_get (ad := ad) (tA := tA) o2 o3
                      rw [hh] at he
                      have hw := wl_get (ad := ad) (tA := tA) v2 v3
                      rw [hv] at hw
                      obtain ⟨c9, hty⟩ := tag_cls (tA := tA) ht
                      obtain ⟨r6a, L, xs, r6b, r6c⟩ := r6
                      have hok := r2 a o2 o3
                      rw [hh] at hok
                      refine va_astq (r := (rF ci, tF ci, nF ci)) hx hb hF.1 hP hD hS (a - 1) t (v - 1) ci he hty hw (cls_row ci c9) hin hd (fun H1 locs1 hP1 hD1 hS1 => ?_)
                      have hfe : va_up (fun j => (f j).map ad) i.toNatClampNeg (some (ad v)) = fun j => (va_up f i.toNatClampNeg (some v) j).map ad := by
                        funext j
                        by_cases hj : j = i.toNatClampNeg
                        · simp [va_up, hj]
                        · simp [va_up, hj]
                      rw [hfe, show (Sum.inl (tA t, n, .inr (.inr (.inr (.inr (fun j => (va_up f i.toNatClampNeg (some v) j).map ad))))) : va_E) = trE ad tA (Sum.inl (t, n, .inr (.inr (.inr (.inr (va_up f i.toNatClampNeg (some v))))))) from rfl, ← wl_set o2 o3] at hP1 hD1
                      have hok2 : okE hp.1 (Sum.inl (t, n, .inr (.inr (.inr (.inr (va_up f i.toNatClampNeg (some v))))))) := by
                        intro j r hj
                        simp only [va_up] at hj
                        by_cases hji : j = i.toNatClampNeg
                        · rw [if_pos hji] at hj; cases hj; exact v3
                        · rw [if_neg hji] at hj; exact hok j r hj
                      exact hk H1 locs1 lsr ad cells slots ⟨⟨hP1, hD1, hS1⟩, okH_set r2 hok2, ⟨ok_tl (ok_tl (ok_tl r3)), r4⟩, r5, r6a, L, xs, ((set_0 o2).trans r6b), r6c⟩ z1 z2
                    · simp only [act, hh, hv, if_neg hc] at h
                      exact nos h
            | _ => exact nos h
        | _ => exact nos h
    | _ => exact nos h
theorem n_alen (hC : Cx p l R s m meth c k lo D tA) (hd : decode (mB k) pc = .ok (.arraylength, 1)) (h : act k .arraylength pc ls st bc bs hp = some (.inl (pc', ls', st', bc', bs', hp'))) (hk : Wg p l e R s m args below meth c Q D tA lo k ad0 n0 pc' ls' st' bc' bs' hp') : Wg p l e R s m args below meth c Q D tA lo k ad0 n0 pc ls st bc bs hp := by
  obtain ⟨⟨hx, hb, hown, hml⟩, ⟨hlk, hr, hmn, hxt⟩, hF, hZ, hlo, hrm, htr⟩ := hC
  cases st with
  | nil => exact nos h
  | cons v0 st =>
    cases v0 with
    | ref a =>
      cases hh : hp.2 a with
      | inr y => simp only [act, hh] at h; exact nos h
      | inl y =>
        obtain ⟨t, n, f⟩ := y
        by_cases hc : t ≤ 8 ∧ (a = 0 → t = 0) ∧ a ≤ hp.1
        · have h1 : (some (Sum.inl (pc + 1, ls, .int (Int32.ofNat n) :: st, bc, bs, hp)) : Option Act) = some (Sum.inl (pc', ls', st', bc', bs', hp')) := by simp only [act, hh, if_pos hc] at h; exact h
          cases h1
          intro H locs lsr ad cells slots hR z1 z2
          obtain ⟨⟨hP, hD, hS⟩, r2, ⟨r3, r4⟩, r5, r6⟩ := hR
          obtain ⟨t8, t0, o3⟩ := hc
          have fin := hk H locs lsr ad cells slots ⟨⟨hP, hD, hS⟩, r2, ⟨ok_cs trivial (ok_tl r3), r4⟩, r5, r6⟩ z1 z2
          by_cases ha : 1 ≤ a
          · have he := wl_get (ad := ad) (tA := tA) ha o3
            rw [hh] at he
            obtain ⟨ty, hty⟩ := tag_any (tA := tA) t8
            rcases f with f | f | f | f | f
            all_goals exact va_alen hx hb hF.1 hP (a - 1) t he hty rfl hd fin
          · have ha0 : a = 0 := Nat.lt_one_iff.mp (Nat.lt_of_not_le ha)
            subst ha0
            obtain ⟨-, L, xs, r6b, r6c, r6d⟩ := r6
            rw [hh] at r6b
            cases r6b
            exact va_slen hx hb r6c (Nat.lt_of_lt_of_le r6d hlo) (fun q => absurd r6d (Nat.not_lt.mpr q)) hS hd fin
        · simp only [act, hh, if_neg hc] at h
          exact nos h
    | _ => exact nos h
end MEM
end
section
section ALLOC
variable {p : Program} {l : Launch} {e : Env} {R : Room} {s : State} {m : MethodId} {args : Array Value} {below : List Frame} {meth : Method} {c : Code} {Q : State → Prop} {D : va_G} {tA : Nat → ClassId} {lo k : Nat} {ad0 : Nat → Nat} {n0 : Nat}
variable {pc pc' : Nat} {ls ls' st st' : List Value} {bc bs bc' bs' : Nat} {hp hp' : Hp}
theorem tr_dv {ad : Nat → Nat} {ty : FieldType} : tr ad (defaultValue ty) = defaultValue ty := by cases ty <;> rfl
theorem tr_dflt {ad : Nat → Nat} {ci : Nat} : (dflt ci).map (tr ad) = dflt ci := by
  unfold dflt
  rw [List.map_map]
  exact List.map_congr_left fun j _ => tr_dv
theorem okv_dv {n : Nat} {ty : FieldType} : okv n (defaultValue ty) := by cases ty <;> trivial
theorem ok_dflt {n ci : Nat} : ∀ v ∈ dflt ci, okv n v := by
  intro v hv
  obtain ⟨j, -, rfl⟩ := List.mem_map.mp hv
  exact okv_dv
theorem dflt_at {ci j : Nat} (h : j < nF ci) : defaultValue (yF ci j) = vp_V (dflt ci) j := by
  unfold vp_V dflt
  rw [List.getD_eq_getElem?_getD, List.getElem?_map, List.getElem?_range h]
  rfl
theorem new_spec {k x kd ci : Nat} (h : newOf k x = some (kd, ci)) : (kd = 0 → ci < 9) ∧ (kd = 1 → ci < 6) ∧ ∀ w ∈ newWs (mO k) x kd ci, w ∈ TW := by
  obtain ⟨h1, h2⟩ := new_tab (mO k) (mO_lt k)
  obtain ⟨i, hi⟩ := zip_in h1 (lookup_mem h)
  obtain ⟨h3, h4, h5⟩ := h2 _ hi
  exact ⟨h3, h4, atP_in h5⟩
theorem bytes_le {N : Nat} {ty : FieldType} (h : N ≤ 65536) (hc : componentBytes ty ≤ 8) : N * componentBytes ty ≤ 536870912 := Nat.le_trans (Nat.mul_le_mul h hc) (by decide)
theorem acw : nativeFrameWords "java/lang/System" "arraycopy" 5 ≤ 20 := by decide
theorem add_0 {hp : Hp} {e : va_E} : (addHp hp e).2 0 = hp.2 0 := by
  have : ¬ 0 = hp.1 + 1 := by omega
  simp only [addHp, va_up, if_neg this]
/-- one cell more -/
theorem Rl.add {ad : Nat → Nat} {H H1 : Heap} {locs : List Loc} {lsr : Array Slot} {q : Nat} {E : va_E} (hR : Rl s D tA lo k ad0 n0 ad hp ls st H locs lsr)
    (hP : va_P D vw9 (wl ad tA hp ++ [(q, trE (va_up ad (hp.1 + 1) q) tA E)]) H1) (hD : va_D (loA lo) (wl ad tA hp ++ [(q, trE (va_up ad (hp.1 + 1) q) tA E)])) (hS : va_S (loA lo) s.heap H1 locs) (hok : okE (hp.1 + 1) E) :
    Rl s D tA lo k ad0 n0 (va_up ad (hp.1 + 1) q) (addHp hp E) ls (.ref (hp.1 + 1) :: st) H1 locs lsr ∧ (Value.ref (hp.1 + 1) :: st).map (tr (va_up ad (hp.1 + 1) q)) = .ref q :: st.map (tr ad) := by
  obtain ⟨-, r2, ⟨r3, r4⟩, r5, ⟨r6, r7⟩, L, xs, r8, r9, r10⟩ := hR
  have hag : ∀ i, i ≤ hp.1 → va_up ad (hp.1 + 1) q i = ad i := fun i hi => by
    have : ¬ i = hp.1 + 1 := by omega
    simp only [va_up, if_neg this]
  have hst : st.map (tr (va_up ad (hp.1 + 1) q)) = st.map (tr ad) := st_eq hag r3
  rw [← wl_add r2] at hP hD
  refine ⟨⟨⟨hP, hD, hS⟩, okH_add r2 hok, ⟨ok_cs (Nat.le_refl _) (fun v hv => okv_mono (Nat.le_succ _) (r3 v hv)), fun v hv => okv_mono (Nat.le_succ _) (r4 v hv)⟩, r5.eq hag r4, ⟨fun i hi => (hag i (Nat.le_trans hi r7)).trans (r6 i hi), Nat.le_succ_of_le r7⟩, L, xs, add_0.trans r8, ?_, ?_⟩, ?_⟩
  · rw [hag 0 (Nat.zero_le _)]; exact r9
  · rw [hag 0 (Nat.zero_le _)]; exact r10
  · rw [List.map_cons, hst]
    simp only [tr, va_up, if_true]
theorem arr_word {ty : FieldType} (hF : SF D tA s) (h : ty ∈ [FieldType.int, .float, .boolean, .long, .double]) : (Cond.arrayClass ty).before args s = true := by
  refine hF.word (atP_in arr_tab _ ?_)
  simp only [List.mem_cons, List.not_mem_nil, or_false] at h ⊢
  rcases h with rfl | rfl | rfl | rfl | rfl <;> simp
theorem n_new {x : Nat} (hC : Cx p l R s m meth c k lo D tA) (hd : decode (mB k) pc = .ok ((.new x), 3)) (h : act k (.new x) pc ls st bc bs hp = some (.inl (pc', ls', st', bc', bs', hp'))) (hk : Wg p l e R s m args below meth c Q D tA lo k ad0 n0 pc' ls' st' bc' bs' hp') : Wg p l e R s m args below meth c Q D tA lo k ad0 n0 pc ls st bc bs hp := by
  obtain ⟨⟨hx, hb, hown, hml⟩, ⟨hlk, hr, hmn, hxt⟩, hF, hZ, hlo, hrm, htr⟩ := hC
  cases hf : newOf k x with
  | none => simp only [act, hf] at h; exact nos h
  | some q =>
    obtain ⟨kd, ci⟩ := q
    rcases kd with _ | _ | kd
    · by_cases hc : ci < 9 ∧ 1 ≤ bc ∧ nF ci ≤ bs
      · have h1 : (some (Sum.inl (pc + 3, ls, .ref (hp.1 + 1) :: st, bc - 1, bs - nF ci, addHp hp (.inr (ci, dflt ci)))) : Option Act) = some (Sum.inl (pc', ls', st', bc', bs', hp')) := by simp only [act, hf, if_pos hc] at h; exact h
        cases h1
        intro H locs lsr ad cells slots hR z1 z2
        have hR0 := hR
        obtain ⟨⟨hP, hD, hS⟩, r2, ⟨r3, r4⟩, r5, r6⟩ := hR
        obtain ⟨c9, b1, b2⟩ := hc
        obtain ⟨-, -, hw⟩ := new_spec hf
        refine va_new (ci := ci) (fs := dflt ci) (C := rF ci) (T := tF ci) (N := nF ci) hx hb (Ts := TW) hF.words (cls_lay c9) (yF ci) (cls_ty ci c9) hown (hF.word (hw _ List.mem_cons_self)) (hF.word (atP_in (cls_tab ci c9) _ (List.mem_append_right _ List.mem_cons_self))) (hF.word (atP_in (cls_tab ci c9) _ (List.mem_append_right _ (List.mem_cons_of_mem _ List.mem_cons_self)))) hF.1 hP hD hS (lo_own hlo) (cls_row ci c9) (fun j hj => dflt_at hj) (by omega) (by omega) hd (fun q H1 hP1 hD1 hS1 => ?_)
        rw [show (Sum.inr (ci, dflt ci) : va_E) = trE (va_up ad (hp.1 + 1) q) tA (.inr (ci, dflt ci)) by simp only [trE, tr_dflt]] at hP1 hD1
        obtain ⟨g1, g2⟩ := hR0.add hP1 hD1 hS1 (E := .inr (ci, dflt ci)) ok_dflt
        rw [← g2]
        exact hk H1 locs lsr _ (cells + 1) (slots + nF ci) g1 (by omega) (by omega)
      · simp only [act, hf, if_neg hc] at h
        exact nos h
    · simp only [act, hf] at h
      split at h
      · cases h
      · exact nos h
    · simp only [act, hf] at h
      exact nos h
theorem n_newarray {ty : ArrayType} (hC : Cx p l R s m meth c k lo D tA) (hd : decode (mB k) pc = .ok ((.newarray ty), 2)) (h : act k (.newarray ty) pc ls st bc bs hp = some (.inl (pc', ls', st', bc', bs', hp'))) (hk : Wg p l e R s m args below meth c Q D tA lo k ad0 n0 pc' ls' st' bc' bs' hp') : Wg p l e R s m args below meth c Q D tA lo k ad0 n0 pc ls st bc bs hp := by
  obtain ⟨⟨hx, hb, hown, hml⟩, ⟨hlk, hr, hmn, hxt⟩, hF, hZ, hlo, hrm, htr⟩ := hC
  cases st with
  | nil => exact nos h
  | cons v0 st =>
    cases v0 with
    | int n =>
      by_cases hc : ¬ n < 0 ∧ n.toNatClampNeg ≤ 65536 ∧ 1 ≤ bc ∧ n.toNatClampNeg ≤ bs
      · obtain ⟨b0, b1, b2, b3⟩ := id hc
        cases ty with
        | boolean =>
          have h1 : (some (Sum.inl (pc + 2, ls, .ref (hp.1 + 1) :: st, bc - 1, bs - n.toNatClampNeg, addHp hp (.inl (2, (n.toNatClampNeg, .inl fun _ => 0))))) : Option Act) = some (Sum.inl (pc', ls', st', bc', bs', hp')) := by simp only [act, atTag, newA, if_pos hc] at h; exact h
          cases h1
          intro H locs lsr ad cells slots hR z1 z2
          have hR0 : Rl s D tA lo k ad0 n0 ad hp _ _ H locs lsr := ⟨hR.1, hR.2.1, ⟨ok_tl hR.2.2.1.1, hR.2.2.1.2⟩, hR.2.2.2⟩
          obtain ⟨⟨hP, hD, hS⟩, r2, ⟨r3, r4⟩, r5, r6⟩ := hR
          refine va_newa (atype := .boolean) (ty := .boolean) (a0 := (n.toNatClampNeg, .inl fun _ => 0)) hx hb (arr_word hF (by simp [newarray.typeOf])) rfl hF.1 hP hD hS (lo_own hlo) (fun _ => rfl) b0 rfl (bytes_le b1 (by decide)) (by omega) (by omega) hd (fun q cA H1 hK1 hP1 hD1 hS1 => ?_)
          have hcA : cA = tA 2 := by
            have k1 := (hK1.2 9 (cA, .boolean) rfl).2
            have k2 := (hF.1.2 2 (tA 2, .boolean) rfl).2
            exact Option.some.inj (Eq.trans (Eq.symm k1) k2)
          subst hcA
          rw [show (Sum.inl (tA 2, (n.toNatClampNeg, .inl fun _ => 0)) : va_E) = trE (va_up ad (hp.1 + 1) q) tA (.inl (2, (n.toNatClampNeg, .inl fun _ => 0))) from rfl] at hP1 hD1
          obtain ⟨g1, g2⟩ := hR0.add hP1 hD1 hS1 (E := .inl (2, (n.toNatClampNeg, .inl fun _ => 0))) trivial
          rw [← g2]
          exact hk H1 locs lsr _ (cells + 1) (slots + n.toNatClampNeg) g1 (by omega) (by omega)
        | char => simp only [act, atTag, newA] at h; exact nos h
        | float =>
          have h1 : (some (Sum.inl (pc + 2, ls, .ref (hp.1 + 1) :: st, bc - 1, bs - n.toNatClampNeg, addHp hp (.inl (1, (n.toNatClampNeg, .inr (.inr (.inl fun _ => 0))))))) : Option Act) = some (Sum.inl (pc', ls', st', bc', bs', hp')) := by simp only [act, atTag, newA, if_pos hc] at h; exact h
          cases h1
          intro H locs lsr ad cells slots hR z1 z2
          have hR0 : Rl s D tA lo k ad0 n0 ad hp _ _ H locs lsr := ⟨hR.1, hR.2.1, ⟨ok_tl hR.2.2.1.1, hR.2.2.1.2⟩, hR.2.2.2⟩
          obtain ⟨⟨hP, hD, hS⟩, r2, ⟨r3, r4⟩, r5, r6⟩ := hR
          refine va_newa (atype := .float) (ty := .float) (a0 := (n.toNatClampNeg, .inr (.inr (.inl fun _ => 0)))) hx hb (arr_word hF (by simp [newarray.typeOf])) rfl hF.1 hP hD hS (lo_own hlo) (fun _ => rfl) b0 rfl (bytes_le b1 (by decide)) (by omega) (by omega) hd (fun q cA H1 hK1 hP1 hD1 hS1 => ?_)
          have hcA : cA = tA 1 := by
            have k1 := (hK1.2 9 (cA, .float) rfl).2
            have k2 := (hF.1.2 1 (tA 1, .float) rfl).2
            exact Option.some.inj (Eq.trans (Eq.symm k1) k2)
          subst hcA
          rw [show (Sum.inl (tA 1, (n.toNatClampNeg, .inr (.inr (.inl fun _ => 0)))) : va_E) = trE (va_up ad (hp.1 + 1) q) tA (.inl (1, (n.toNatClampNeg, .inr (.inr (.inl fun _ => 0))))) from rfl] at hP1 hD1
          obtain ⟨g1, g2⟩ := hR0.add hP1 hD1 hS1 (E := .inl (1, (n.toNatClampNeg, .inr (.inr (.inl fun _ => 0))))) trivial
          rw [← g2]
          exact hk H1 locs lsr _ (cells + 1) (slots + n.toNatClampNeg) g1 (by omega) (by omega)
        | double =>
          have h1 : (some (Sum.inl (pc + 2, ls, .ref (hp.1 + 1) :: st, bc - 1, bs - n.toNatClampNeg, addHp hp (.inl (4, (n.toNatClampNeg, .inr (.inr (.inr (.inl fun _ => 0)))))))) : Option Act) = some (Sum.inl (pc', ls', st', bc', bs', hp')) := by simp only [act, atTag, newA, if_pos hc] at h; exact h
          cases h1
          intro H locs lsr ad cells slots hR z1 z2
          have hR0 : Rl s D tA lo k ad0 n0 ad hp _ _ H locs lsr := ⟨hR.1, hR.2.1, ⟨ok_tl hR.2.2.1.1, hR.2.2.1.2⟩, hR.2.2.2⟩
          obtain ⟨⟨hP, hD, hS⟩, r2, ⟨r3, r4⟩, r5, r6⟩ := hR
          refine va_newa (atype := .double) (ty := .double) (a0 := (n.toNatClampNeg, .inr (.inr (.inr (.inl fun _ => 0))))) hx hb (arr_word hF (by simp [newarray.typeOf])) rfl hF.1 hP hD hS (lo_own hlo) (fun _ => rfl) b0 rfl (bytes_le b1 (by decide)) (by omega) (by omega) hd (fun q cA H1 hK1 hP1 hD1 hS1 => ?_)
          have hcA : cA = tA 4 := by
            have k1 := (hK1.2 9 (cA, .double) rfl).2
            have k2 := (hF.1.2 4 (tA 4, .double) rfl).2
            exact Option.some.inj (Eq.trans (Eq.symm k1) k2)
          subst hcA
          rw [show (Sum.inl (tA 4, (n.toNatClampNeg, .inr (.inr (.inr (.inl fun _ => 0))))) : va_E) = trE (va_up ad (hp.1 + 1) q) tA (.inl (4, (n.toNatClampNeg, .inr (.inr (.inr (.inl fun _ => 0)))))) from rfl] at hP1 hD1
          obtain ⟨g1, g2⟩ := hR0.add hP1 hD1 hS1 (E := .inl (4, (n.toNatClampNeg, .inr (.inr (.inr (.inl fun _ => 0)))))) trivial
          rw [← g2]
          exact hk H1 locs lsr _ (cells + 1) (slots + n.toNatClampNeg) g1 (by omega) (by omega)
        | byte => simp only [act, atTag, newA] at h; exact nos h
        | short => simp only [act, atTag, newA] at h; exact nos h
        | int =>
          have h1 : (some (Sum.inl (pc + 2, ls, .ref (hp.1 + 1) :: st, bc - 1, bs - n.toNatClampNeg, addHp hp (.inl (0, (n.toNatClampNeg, .inl fun _ => 0))))) : Option Act) = some (Sum.inl (pc', ls', st', bc', bs', hp')) := by simp only [act, atTag, newA, if_pos hc] at h; exact h
          cases h1
          intro H locs lsr ad cells slots hR z1 z2
          have hR0 : Rl s D tA lo k ad0 n0 ad hp _ _ H locs lsr := ⟨hR.1, hR.2.1, ⟨ok_tl hR.2.2.1.1, hR.2.2.1.2⟩, hR.2.2.2⟩
          obtain ⟨⟨hP, hD, hS⟩, r2, ⟨r3, r4⟩, r5, r6⟩ := hR
          refine va_newa (atype := .int) (ty := .int) (a0 := (n.toNatClampNeg, .inl fun _ => 0)) hx hb (arr_word hF (by simp [newarray.typeOf])) rfl hF.1 hP hD hS (lo_own hlo) (fun _ => rfl) b0 rfl (bytes_le b1 (by decide)) (by omega) (by omega) hd (fun q cA H1 hK1 hP1 hD1 hS1 => ?_)
          have hcA : cA = tA 0 := by
            have k1 := (hK1.2 9 (cA, .int) rfl).2
            have k2 := (hF.1.2 0 (tA 0, .int) rfl).2
            exact Option.some.inj (Eq.trans (Eq.symm k1) k2)
          subst hcA
          rw [show (Sum.inl (tA 0, (n.toNatClampNeg, .inl fun _ => 0)) : va_E) = trE (va_up ad (hp.1 + 1) q) tA (.inl (0, (n.toNatClampNeg, .inl fun _ => 0))) from rfl] at hP1 hD1
          obtain ⟨g1, g2⟩ := hR0.add hP1 hD1 hS1 (E := .inl (0, (n.toNatClampNeg, .inl fun _ => 0))) trivial
          rw [← g2]
          exact hk H1 locs lsr _ (cells + 1) (slots + n.toNatClampNeg) g1 (by omega) (by omega)
        | long =>
          have h1 : (some (Sum.inl (pc + 2, ls, .ref (hp.1 + 1) :: st, bc - 1, bs - n.toNatClampNeg, addHp hp (.inl (3, (n.toNatClampNeg, .inr (.inl fun _ => 0)))))) : Option Act) = some (Sum.inl (pc', ls', st', bc', bs', hp')) := by simp only [act, atTag, newA, if_pos hc] at h; exact h
          cases h1
          intro H locs lsr ad cells slots hR z1 z2
          have hR0 : Rl s D tA lo k ad0 n0 ad hp _ _ H locs lsr := ⟨hR.1, hR.2.1, ⟨ok_tl hR.2.2.1.1, hR.2.2.1.2⟩, hR.2.2.2⟩
          obtain ⟨⟨hP, hD, hS⟩, r2, ⟨r3, r4⟩, r5, r6⟩ := hR
          refine va_newa (atype := .long) (ty := .long) (a0 := (n.toNatClampNeg, .inr (.inl fun _ => 0))) hx hb (arr_word hF (by simp [newarray.typeOf])) rfl hF.1 hP hD hS (lo_own hlo) (fun _ => rfl) b0 rfl (bytes_le b1 (by decide)) (by omega) (by omega) hd (fun q cA H1 hK1 hP1 hD1 hS1 => ?_)
          have hcA : cA = tA 3 := by
            have k1 := (hK1.2 9 (cA, .long) rfl).2
            have k2 := (hF.1.2 3 (tA 3, .long) rfl).2
            exact Option.some.inj (Eq.trans (Eq.symm k1) k2)
          subst hcA
          rw [show (Sum.inl (tA 3, (n.toNatClampNeg, .inr (.inl fun _ => 0))) : va_E) = trE (va_up ad (hp.1 + 1) q) tA (.inl (3, (n.toNatClampNeg, .inr (.inl fun _ => 0)))) from rfl] at hP1 hD1
          obtain ⟨g1, g2⟩ := hR0.add hP1 hD1 hS1 (E := .inl (3, (n.toNatClampNeg, .inr (.inl fun _ => 0)))) trivial
          rw [← g2]
          exact hk H1 locs lsr _ (cells + 1) (slots + n.toNatClampNeg) g1 (by omega) (by omega)
      · cases ty <;> simp only [act, atTag, newA, if_neg hc] at h <;> exact nos h
    | _ => exact nos h
theorem tag_over {t ci : Nat} (h : arTag ci = some t) : rF ci ∈ [RX5, RX1, RX3, RX0] := by
  have h2 := lookup_mem h
  simp only [List.mem_cons, Prod.mk.injEq, List.not_mem_nil, or_false] at h2
  rcases h2 with ⟨rfl, rfl⟩ | ⟨rfl, rfl⟩ | ⟨rfl, rfl⟩ | ⟨rfl, rfl⟩
  · exact List.mem_cons_self
  · exact List.mem_cons_of_mem _ List.mem_cons_self
  · exact List.mem_cons_of_mem _ (List.mem_cons_of_mem _ List.mem_cons_self)
  · exact List.mem_cons_of_mem _ (List.mem_cons_of_mem _ (List.mem_cons_of_mem _ List.mem_cons_self))
theorem n_anewarray {x : Nat} (hC : Cx p l R s m meth c k lo D tA) (hd : decode (mB k) pc = .ok ((.anewarray x), 3)) (h : act k (.anewarray x) pc ls st bc bs hp = some (.inl (pc', ls', st', bc', bs', hp'))) (hk : Wg p l e R s m args below meth c Q D tA lo k ad0 n0 pc' ls' st' bc' bs' hp') : Wg p l e R s m args below meth c Q D tA lo k ad0 n0 pc ls st bc bs hp := by
  obtain ⟨⟨hx, hb, hown, hml⟩, ⟨hlk, hr, hmn, hxt⟩, hF, hZ, hlo, hrm, htr⟩ := hC
  cases st with
  | nil => exact nos h
  | cons v0 st =>
    cases v0 with
    | int n =>
      cases hf : newOf k x with
      | none => simp only [act, hf] at h; exact nos h
      | some q =>
        obtain ⟨kd, ci⟩ := q
        rcases kd with _ | kd
        · cases ht : arTag ci with
          | none => simp only [act, hf, ht] at h; exact nos h
          | some t =>
            by_cases hc : ¬ n < 0 ∧ n.toNatClampNeg ≤ 65536 ∧ 1 ≤ bc ∧ n.toNatClampNeg ≤ bs
            · have h1 : (some (Sum.inl (pc + 3, ls, .ref (hp.1 + 1) :: st, bc - 1, bs - n.toNatClampNeg, addHp hp (.inl (t, n.toNatClampNeg, .inr (.inr (.inr (.inr (fun _ => none)))))))) : Option Act) = some (Sum.inl (pc', ls', st', bc', bs', hp')) := by simp only [act, hf, ht, if_pos hc] at h; exact h
              cases h1
              intro H locs lsr ad cells slots hR z1 z2
              have hR0 : Rl s D tA lo k ad0 n0 ad hp _ _ H locs lsr := ⟨hR.1, hR.2.1, ⟨ok_tl hR.2.2.1.1, hR.2.2.1.2⟩, hR.2.2.2⟩
              obtain ⟨⟨hP, hD, hS⟩, r2, ⟨r3, r4⟩, r5, r6⟩ := hR
              obtain ⟨b0, b1, b2, b3⟩ := hc
              obtain ⟨-, -, hw⟩ := new_spec hf
              obtain ⟨c9, hty⟩ := tag_cls (tA := tA) ht
              refine va_newq (C := rF ci) hx hb hown (hF.word (hw _ List.mem_cons_self)) (hF.2.2.2.1 (rF ci) (tag_over ht)) hF.1 hP hD hS (lo_own hlo) b0 rfl (Nat.le_trans (Nat.mul_le_mul b1 (Nat.le_refl 4)) (by decide)) (by omega) (by omega) hd (fun q cA H1 hK1 hP1 hD1 hS1 => ?_)
              have hcA : cA = tA t := by
                have k1 := (hK1.2 9 (cA, .object (rF ci)) rfl).2
                have k2 := (hF.1.2 t (tA t, .object (rF ci)) hty).2
                obtain ⟨-, -, -, -, -, k3⟩ := k1
                obtain ⟨-, -, -, -, -, k4⟩ := k2
                exact Option.some.inj (k3.symm.trans k4)
              subst hcA
              rw [show (Sum.inl (tA t, n.toNatClampNeg, .inr (.inr (.inr (.inr (fun _ => none))))) : va_E) = trE (va_up ad (hp.1 + 1) q) tA (.inl (t, n.toNatClampNeg, .inr (.inr (.inr (.inr (fun _ => none)))))) from rfl] at hP1 hD1
              obtain ⟨g1, g2⟩ := hR0.add hP1 hD1 hS1 (E := .inl (t, n.toNatClampNeg, .inr (.inr (.inr (.inr (fun _ => none)))))) (fun i r hi => by cases hi)
              rw [← g2]
              exact hk H1 locs lsr _ (cells + 1) (slots + n.toNatClampNeg) g1 (by omega) (by omega)
            · simp only [act, hf, ht, if_neg hc] at h
              exact nos h
        · simp only [act, hf] at h
          exact nos h
    | _ => exact nos h
theorem cal_spec {k x kd k' : Nat} (h : calOf k x = some (kd, k')) : calPl kd k' = true ∧ ∀ w ∈ calWs (mO k) x kd k', w ∈ TW := by
  obtain ⟨h1, h2⟩ := cal_tab (mO k) (mO_lt k)
  obtain ⟨i, hi⟩ := zip_in h1 (lookup_mem h)
  obtain ⟨h3, h4⟩ := h2 _ hi
  exact ⟨h3, atP_in h4⟩
theorem ldc_spec {k x : Nat} {v : Value} (h : ldcOf k x = some v) : ∀ w ∈ ldcW (mO k) x v, w ∈ TW := by
  obtain ⟨h1, h2⟩ := ldc_tab (mO k) (mO_lt k)
  obtain ⟨i, hi⟩ := zip_in h1 (lookup_mem h)
  exact atP_in (h2 _ hi)
theorem mem0 {α : Type} {a : α} {l : List α} : a ∈ a :: l := List.mem_cons_self
theorem mem1 {α : Type} {a b : α} {l : List α} : a ∈ b :: a :: l := List.mem_cons_of_mem _ List.mem_cons_self
theorem mem2 {α : Type} {a b c : α} {l : List α} : a ∈ b :: c :: a :: l := List.mem_cons_of_mem _ mem1
theorem mem3 {α : Type} {a b c d : α} {l : List α} : a ∈ b :: c :: d :: a :: l := List.mem_cons_of_mem _ mem2
theorem n_ldc {x : Nat} (hC : Cx p l R s m meth c k lo D tA) (hd : decode (mB k) pc = .ok ((.ldc x), 2)) (h : act k (.ldc x) pc ls st bc bs hp = some (.inl (pc', ls', st', bc', bs', hp'))) (hk : Wg p l e R s m args below meth c Q D tA lo k ad0 n0 pc' ls' st' bc' bs' hp') : Wg p l e R s m args below meth c Q D tA lo k ad0 n0 pc ls st bc bs hp := by
  obtain ⟨⟨hx, hb, hown, hml⟩, ⟨hlk, hr, hmn, hxt⟩, hF, hZ, hlo, hrm, htr⟩ := hC
  cases hl : ldcOf k x with
  | none => simp only [act, hl] at h; exact nos h
  | some v =>
    have hw := ldc_spec hl
    cases v with
    | float v =>
      have h1 : (some (Sum.inl (pc + 2, ls, .float v :: st, bc, bs, hp)) : Option Act) = some (Sum.inl (pc', ls', st', bc', bs', hp')) := by simp only [act, hl] at h; exact h
      cases h1
      exact hk.go (fun r _ => ok_cs trivial r) (fun H locs lsr ad cells slots hL kk => lv_ldcf hx hb hown (hF.word (hw _ mem0)) hd kk)
    | int v =>
      have h1 : (some (Sum.inl (pc + 2, ls, .int v :: st, bc, bs, hp)) : Option Act) = some (Sum.inl (pc', ls', st', bc', bs', hp')) := by simp only [act, hl] at h; exact h
      cases h1
      exact hk.go (fun r _ => ok_cs trivial r) (fun H locs lsr ad cells slots hL kk => lv_ldc hx hb hown (hF.word (hw _ mem0)) hd kk)
    | _ => simp only [act, hl] at h; exact nos h
theorem n_ldc2 {x : Nat} (hC : Cx p l R s m meth c k lo D tA) (hd : decode (mB k) pc = .ok ((.ldc2_w x), 3)) (h : act k (.ldc2_w x) pc ls st bc bs hp = some (.inl (pc', ls', st', bc', bs', hp'))) (hk : Wg p l e R s m args below meth c Q D tA lo k ad0 n0 pc' ls' st' bc' bs' hp') : Wg p l e R s m args below meth c Q D tA lo k ad0 n0 pc ls st bc bs hp := by
  obtain ⟨⟨hx, hb, hown, hml⟩, ⟨hlk, hr, hmn, hxt⟩, hF, hZ, hlo, hrm, htr⟩ := hC
  cases hl : ldcOf k x with
  | none => simp only [act, hl] at h; exact nos h
  | some v =>
    have hw := ldc_spec hl
    cases v with
    | double v =>
      have h1 : (some (Sum.inl (pc + 3, ls, .double v :: st, bc, bs, hp)) : Option Act) = some (Sum.inl (pc', ls', st', bc', bs', hp')) := by simp only [act, hl] at h; exact h
      cases h1
      exact hk.go (fun r _ => ok_cs trivial r) (fun H locs lsr ad cells slots hL kk => lv_ldc2d hx hb hown (hF.word (hw _ mem0)) hd kk)
    | _ => simp only [act, hl] at h; exact nos h
theorem n_special {x : Nat} (hC : Cx p l R s m meth c k lo D tA) (hd : decode (mB k) pc = .ok ((.invokespecial x), 3)) (h : act k (.invokespecial x) pc ls st bc bs hp = some (.inl (pc', ls', st', bc', bs', hp'))) (hk : Wg p l e R s m args below meth c Q D tA lo k ad0 n0 pc' ls' st' bc' bs' hp') : Wg p l e R s m args below meth c Q D tA lo k ad0 n0 pc ls st bc bs hp := by
  obtain ⟨⟨hx, hb, hown, hml⟩, ⟨hlk, hr, hmn, hxt⟩, hF, hZ, hlo, hrm, htr⟩ := hC
  cases hf : calOf k x with
  | none => simp only [act, hf] at h; exact nos h
  | some q =>
    obtain ⟨kd, k2⟩ := q
    obtain ⟨-, hw⟩ := cal_spec hf
    rcases kd with _ | _ | _ | _ | _ | _ | _ | kd
    · simp only [act, hf] at h; exact nos h
    · simp only [act, hf] at h; exact nos h
    · simp only [act, hf] at h; exact nos h
    · simp only [act, hf] at h; split at h
      · cases h
      · exact nos h
    · simp only [act, hf] at h; split at h
      · cases h
      · exact nos h
    · simp only [act, hf] at h; exact nos h
    · cases st with
      | nil => simp only [act, hf] at h; exact nos h
      | cons v0 st =>
        cases v0 with
        | ref a =>
          by_cases hc : nsum st ≤ 8
          · have h1 : (some (Sum.inl (pc + 3, ls, st, bc, bs, hp)) : Option Act) = some (Sum.inl (pc', ls', st', bc', bs', hp')) := by simp only [act, hf, if_pos hc] at h; exact h
            cases h1
            exact hk.go (fun r _ => ok_tl r) (fun H locs lsr ad cells slots hL kk => W.objInit hx hb hown (hF.word (hw _ mem0)) (hF.word (hw _ mem1)) (hF.word (hw _ mem2)) rfl (by rw [hml]; exact hL.2.1) rfl hd (by omega) (by show 2 * 0 + _ + 12 ≤ _; rw [tr_sum]; omega) kk)
          · simp only [act, hf, if_neg hc] at h; exact nos h
        | _ => simp only [act, hf] at h; exact nos h
    · simp only [act, hf] at h; exact nos h
theorem n_static {x : Nat} (hC : Cx p l R s m meth c k lo D tA) (hd : decode (mB k) pc = .ok ((.invokestatic x), 3)) (h : act k (.invokestatic x) pc ls st bc bs hp = some (.inl (pc', ls', st', bc', bs', hp'))) (hk : Wg p l e R s m args below meth c Q D tA lo k ad0 n0 pc' ls' st' bc' bs' hp') : Wg p l e R s m args below meth c Q D tA lo k ad0 n0 pc ls st bc bs hp := by
  obtain ⟨⟨hx, hb, hown, hml⟩, ⟨hlk, hr, hmn, hxt⟩, hF, hZ, hlo, hrm, htr⟩ := hC
  cases hf : calOf k x with
  | none => simp only [act, hf] at h; exact nos h
  | some q =>
    obtain ⟨kd, k2⟩ := q
    obtain ⟨-, hw⟩ := cal_spec hf
    rcases kd with _ | _ | _ | _ | _ | _ | _ | _ | _ | _ | kd
    · simp only [act, hf] at h; exact nos h
    · simp only [act, hf] at h; split at h
      · cases h
      · exact nos h
    · simp only [act, hf] at h; split at h
      · cases h
      · exact nos h
    · simp only [act, hf] at h; exact nos h
    · simp only [act, hf] at h; exact nos h
    · simp only [act, hf] at h; split at h
      · cases h
      · exact nos h
    · simp only [act, hf] at h; exact nos h
    · cases st with
      | nil => simp only [act, hf] at h; exact nos h
      | cons v0 st =>
        cases v0 with
        | int a =>
          by_cases hc : nsum st ≤ 8
          · have h1 : (some (Sum.inl (pc + 3, ls, .int (if 0 ≤ a then a else 0 - a) :: st, bc, bs, hp)) : Option Act) = some (Sum.inl (pc', ls', st', bc', bs', hp')) := by simp only [act, hf, if_pos hc] at h; exact h
            cases h1
            intro H locs lsr ad cells slots hR z1 z2
            obtain ⟨r1, r2, ⟨r3, r4⟩, r5, r6⟩ := hR
            exact va_mabs hx hb (by rw [hml]; exact r5.2.1.symm) hown (hF.word (hw _ mem0)) (hF.word (hw _ mem1)) (hF.word (hw _ mem2)) (hF.word (hw _ mem3)) (by omega) (by rw [tr_sum]; omega) (by omega) (by omega) hd (hk H locs lsr ad cells slots ⟨r1, r2, ⟨ok_cs trivial (ok_tl r3), r4⟩, r5, r6⟩ z1 z2)
          · simp only [act, hf, if_neg hc] at h; exact nos h
        | _ => simp only [act, hf] at h; exact nos h
    · cases st with
      | nil => simp only [act, hf] at h; exact nos h
      | cons v0 st =>
        cases v0 with
        | int n =>
          cases st with
          | nil => simp only [act, hf] at h; exact nos h
          | cons v1 st =>
            cases v1 with
            | int dp =>
              cases st with
              | nil => simp only [act, hf] at h; exact nos h
              | cons v2 st =>
                cases v2 with
                | ref a =>
                  cases st with
                  | nil => simp only [act, hf] at h; exact nos h
                  | cons v3 st =>
                    cases v3 with
                    | int sp =>
                      cases st with
                      | nil => simp only [act, hf] at h; exact nos h
                      | cons v4 st =>
                        cases v4 with
                        | ref a0 =>
                          cases g0 : hp.2 a0 with
                          | inr y => simp only [act, hf, g0] at h; exact nos h
                          | inl y =>
                            obtain ⟨t0, n1, f⟩ := y
                            rcases f with f | f
                            · cases g1 : hp.2 a with
                              | inr y => simp only [act, hf, g0, g1] at h; exact nos h
                              | inl y =>
                                obtain ⟨t1, n2, g⟩ := y
                                rcases g with g | g
                                · by_cases hc : (t0 = 0 ∧ t1 = 0) ∧ (1 ≤ a0 ∧ a0 ≤ hp.1) ∧ (1 ≤ a ∧ a ≤ hp.1) ∧ ¬ sp < 0 ∧ ¬ dp < 0 ∧ ¬ n < 0 ∧ sp.toNatClampNeg + n.toNatClampNeg ≤ n1 ∧ dp.toNatClampNeg + n.toNatClampNeg ≤ n2 ∧ nsum st ≤ 8
                                  · have h1 : (some (Sum.inl (pc + 3, ls, st, bc, bs, setHp hp a (.inl (t1, n2, .inl (va_cpy f g sp.toNatClampNeg dp.toNatClampNeg n.toNatClampNeg))))) : Option Act) = some (Sum.inl (pc', ls', st', bc', bs', hp')) := by simp only [act, hf, g0, g1, if_pos hc] at h; exact h
                                    cases h1
                                    intro H locs lsr ad cells slots hR z1 z2
                                    obtain ⟨⟨hP, hD, hS⟩, r2, ⟨r3, r4⟩, r5, r6⟩ := hR
                                    obtain ⟨⟨rfl, rfl⟩, ⟨o2, o3⟩, ⟨o4, o5⟩, q1, q2, q3, q4, q5, q6⟩ := hc
                                    have he := wl_get (ad := ad) (tA := tA) o2 o3
                                    rw [g0] at he
                                    have hw2 := wl_get (ad := ad) (tA := tA) o4 o5
                                    rw [g1] at hw2
                                    obtain ⟨r6a, L, xs, r6b, r6c⟩ := r6
                                    refine va_copyi (ty := .int) hx hb (by rw [hml]; exact r5.2.1.symm) hown (hF.word (hw _ mem0)) (hF.word (hw _ mem1)) (hF.word (hw _ mem2)) (hF.word (hw _ mem3)) hF.1 hP hD hS (a0 - 1) (a - 1) 0 0 he hw2 rfl rfl rfl q1 q2 q3 q4 q5 (fun i _ => rfl) (by omega) (by rw [tr_sum]; have := acw; omega) hd (fun H1 locs1 hP1 hD1 hS1 => ?_)
                                    rw [show (Sum.inl (tA 0, n2, .inl (va_cpy f g sp.toNatClampNeg dp.toNatClampNeg n.toNatClampNeg)) : va_E) = trE ad tA (.inl (0, n2, .inl (va_cpy f g sp.toNatClampNeg dp.toNatClampNeg n.toNatClampNeg))) from rfl, ← wl_set o4 o5] at hP1 hD1
                                    exact hk H1 locs1 lsr ad cells slots ⟨⟨hP1, hD1, hS1⟩, okH_set r2 trivial, ⟨ok_tl (ok_tl (ok_tl (ok_tl (ok_tl r3)))), r4⟩, r5, r6a, L, xs, (set_0 o4).trans r6b, r6c⟩ z1 z2
                                  · simp only [act, hf, g0, g1, if_neg hc] at h; exact nos h
                                · simp only [act, hf, g0, g1] at h; exact nos h
                            · simp only [act, hf, g0] at h; exact nos h
                        | _ => simp only [act, hf] at h; exact nos h
                    | _ => simp only [act, hf] at h; exact nos h
                | _ => simp only [act, hf] at h; exact nos h
            | _ => simp only [act, hf] at h; exact nos h
        | _ => simp only [act, hf] at h; exact nos h
    · cases st with
      | nil => simp only [act, hf] at h; exact nos h
      | cons v0 st =>
        cases v0 with
        | float b =>
          by_cases hc : nsum st ≤ 8
          · have h1 : (some (Sum.inl (pc + 3, ls, .int b.toInt32 :: st, bc, bs, hp)) : Option Act) = some (Sum.inl (pc', ls', st', bc', bs', hp')) := by simp only [act, hf, if_pos hc] at h; exact h
            cases h1
            intro H locs lsr ad cells slots hR z1 z2
            obtain ⟨r1, r2, ⟨r3, r4⟩, r5, r6⟩ := hR
            exact vn_f2i hx hb (by rw [hml]; exact r5.2.1.symm) hown (hF.word (hw _ mem0)) (hF.word (hw _ mem1)) (hF.word (hw _ mem2)) (hF.word (hw _ mem3)) (by omega) (by rw [tr_sum]; omega) hd (hk H locs lsr ad cells slots ⟨r1, r2, ⟨ok_cs trivial (ok_tl r3), r4⟩, r5, r6⟩ z1 z2)
          · simp only [act, hf, if_neg hc] at h; exact nos h
        | _ => simp only [act, hf] at h; exact nos h
    · simp only [act, hf] at h; exact nos h
end ALLOC
end
