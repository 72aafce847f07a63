/-! each operation: the wrapper and the model, alike -/
section OPW
variable {S : Nat → St} {M A : St} {B : Nat}
def OpW (kL kM : Nat) (asL asM : List Value) (S : Nat → St) (M A : St) (B : Nat) : Prop :=
  (∃ (r : Int32) (S2 : Nat → St) (A2 : St), S2 2 = A2 ∧ S2 154 = A2 ∧ Inv A2 (B + 90) ∧ LOk kL asL S M S2 (fun z => setL z r.toInt64) ∧ MOk kM asM S2 M A2 0 (.int r)) ∨
  (∃ t : Int32, ¬ t = 0 ∧ LEx kL asL S M t ∧ MOk kM asM S M A t (.int 0))
def OpZ (kL kM : Nat) (asL asM : List Value) (S : Nat → St) (M A : St) (B : Nat) : Prop :=
  (∃ (r : Int32) (S2 : Nat → St) (A2 : St), isZ r ∧ S2 2 = A2 ∧ S2 154 = A2 ∧ Inv A2 (B + 90) ∧ LOk kL asL S M S2 (fun z => setL z r.toInt64) ∧ MOk kM asM S2 M A2 0 (.int r)) ∨
  (∃ t : Int32, ¬ t = 0 ∧ LEx kL asL S M t ∧ MOk kM asM S M A t (.int 0))
theorem v_addLamp (h2 : S 2 = A) (h154 : S 154 = A) (hR : Rel A M) (hI : Inv A B) (hB : B + 90 < 1000000) : OpW kL_addLamp kX8_addLamp [.ref 1, .ref 340] [] S M A B := by
  have h : OpV kX7_addLamp kX8_addLamp [] [(0, 1)] (.int 0) S M A B _ := op_addLamp h2 h154 hR hI
  rcases h with ⟨v, S2, A2, ⟨r, rfl⟩, e1, e2, hI2, hX, hM⟩ | ⟨e, t, he, hX, hM⟩
  · exact Or.inl ⟨r, S2, A2, e1, e2, hI2, w_addLamp hX, hM⟩
  · simp only [List.mem_cons, Prod.mk.injEq, List.not_mem_nil, or_false] at he
    rcases he with ⟨rfl, rfl⟩
    · exact Or.inr ⟨1, by decide, w_addLamp_0 hX, hM⟩
theorem v_patch {x1 x2 : Int32} (h2 : S 2 = A) (h154 : S 154 = A) (hR : Rel A M) (hI : Inv A B) (hB : B + 90 < 1000000) : OpW kL_patch kX8_patch [.ref 1, .int x1, .int x2, .ref 340] [.int x1, .int x2] S M A B := by
  have h : OpV kX7_patch kX8_patch [.int x1, .int x2] [(2, 1), (1, 2), (0, 3)] (.int 0) S M A B _ := op_patch h2 h154 hR hI
  rcases h with ⟨v, S2, A2, ⟨r, rfl⟩, e1, e2, hI2, hX, hM⟩ | ⟨e, t, he, hX, hM⟩
  · exact Or.inl ⟨r, S2, A2, e1, e2, hI2, w_patch hX, hM⟩
  · simp only [List.mem_cons, Prod.mk.injEq, List.not_mem_nil, or_false] at he
    rcases he with ⟨rfl, rfl⟩ | ⟨rfl, rfl⟩ | ⟨rfl, rfl⟩
    · exact Or.inr ⟨1, by decide, w_patch_2 hX, hM⟩
    · exact Or.inr ⟨2, by decide, w_patch_1 hX, hM⟩
    · exact Or.inr ⟨3, by decide, w_patch_0 hX, hM⟩
theorem v_addGroup (h2 : S 2 = A) (h154 : S 154 = A) (hR : Rel A M) (hI : Inv A B) (hB : B + 90 < 1000000) : OpW kL_addGroup kX8_addGroup [.ref 1, .ref 340] [] S M A B := by
  have h : OpV kX7_addGroup kX8_addGroup [] [(0, 1)] (.int 0) S M A B _ := op_addGroup h2 h154 hR hI
  rcases h with ⟨v, S2, A2, ⟨r, rfl⟩, e1, e2, hI2, hX, hM⟩ | ⟨e, t, he, hX, hM⟩
  · exact Or.inl ⟨r, S2, A2, e1, e2, hI2, w_addGroup hX, hM⟩
  · simp only [List.mem_cons, Prod.mk.injEq, List.not_mem_nil, or_false] at he
    rcases he with ⟨rfl, rfl⟩
    · exact Or.inr ⟨1, by decide, w_addGroup_0 hX, hM⟩
theorem v_addToGroup {x1 x2 : Int32} (h2 : S 2 = A) (h154 : S 154 = A) (hR : Rel A M) (hI : Inv A B) (hB : B + 90 < 1000000) : OpW kL_addToGroup kX8_addToGroup [.ref 1, .int x1, .int x2, .ref 340] [.int x1, .int x2] S M A B := by
  have h : OpV kX7_addToGroup kX8_addToGroup [.int x1, .int x2] [(5, 1), (2, 2), (0, 3)] (.int 0) S M A B _ := op_addToGroup h2 h154 hR hI
  rcases h with ⟨v, S2, A2, ⟨r, rfl⟩, e1, e2, hI2, hX, hM⟩ | ⟨e, t, he, hX, hM⟩
  · exact Or.inl ⟨r, S2, A2, e1, e2, hI2, w_addToGroup hX, hM⟩
  · simp only [List.mem_cons, Prod.mk.injEq, List.not_mem_nil, or_false] at he
    rcases he with ⟨rfl, rfl⟩ | ⟨rfl, rfl⟩ | ⟨rfl, rfl⟩
    · exact Or.inr ⟨1, by decide, w_addToGroup_5 hX, hM⟩
    · exact Or.inr ⟨2, by decide, w_addToGroup_2 hX, hM⟩
    · exact Or.inr ⟨3, by decide, w_addToGroup_0 hX, hM⟩
theorem v_addPalette {x1 x2 : Int32} (h2 : S 2 = A) (h154 : S 154 = A) (hR : Rel A M) (hI : Inv A B) (hB : B + 90 < 1000000) : OpW kL_addPalette kX8_addPalette [.ref 1, .int x1, .int x2, .ref 340] [.int x1, .int x2] S M A B := by
  have h : OpV kX7_addPalette kX8_addPalette [.int x1, .int x2] [(1, 1), (0, 2)] (.int 0) S M A B _ := op_addPalette h2 h154 hR hI
  rcases h with ⟨v, S2, A2, ⟨r, rfl⟩, e1, e2, hI2, hX, hM⟩ | ⟨e, t, he, hX, hM⟩
  · exact Or.inl ⟨r, S2, A2, e1, e2, hI2, w_addPalette hX, hM⟩
  · simp only [List.mem_cons, Prod.mk.injEq, List.not_mem_nil, or_false] at he
    rcases he with ⟨rfl, rfl⟩ | ⟨rfl, rfl⟩
    · exact Or.inr ⟨1, by decide, w_addPalette_1 hX, hM⟩
    · exact Or.inr ⟨2, by decide, w_addPalette_0 hX, hM⟩
theorem v_setPalette {x1 x2 : Int32} (h2 : S 2 = A) (h154 : S 154 = A) (hR : Rel A M) (hI : Inv A B) (hB : B + 90 < 1000000) : OpW kL_setPalette kX8_setPalette [.ref 1, .int x1, .int x2, .ref 340] [.int x1, .int x2] S M A B := by
  have h : OpV kX7_setPalette kX8_setPalette [.int x1, .int x2] [(5, 1), (1, 2)] (.int 0) S M A B _ := op_setPalette h2 h154 hR hI
  rcases h with ⟨v, S2, A2, ⟨r, rfl⟩, e1, e2, hI2, hX, hM⟩ | ⟨e, t, he, hX, hM⟩
  · exact Or.inl ⟨r, S2, A2, e1, e2, hI2, w_setPalette hX, hM⟩
  · simp only [List.mem_cons, Prod.mk.injEq, List.not_mem_nil, or_false] at he
    rcases he with ⟨rfl, rfl⟩ | ⟨rfl, rfl⟩
    · exact Or.inr ⟨1, by decide, w_setPalette_5 hX, hM⟩
    · exact Or.inr ⟨2, by decide, w_setPalette_1 hX, hM⟩
theorem v_set {x1 x2 x3 : Int32} (h2 : S 2 = A) (h154 : S 154 = A) (hR : Rel A M) (hI : Inv A B) (hB : B + 90 < 1000000) : OpW kL_set kX8_set [.ref 1, .int x1, .int x2, .int x3, .ref 340] [.int x1, .int x2, .int x3] S M A B := by
  have h : OpV kX7_set kX8_set [.int x1, .int x2, .int x3] [(2, 1), (1, 2)] (.int 0) S M A B _ := op_set h2 h154 hR hI
  rcases h with ⟨v, S2, A2, ⟨r, rfl⟩, e1, e2, hI2, hX, hM⟩ | ⟨e, t, he, hX, hM⟩
  · exact Or.inl ⟨r, S2, A2, e1, e2, hI2, w_set hX, hM⟩
  · simp only [List.mem_cons, Prod.mk.injEq, List.not_mem_nil, or_false] at he
    rcases he with ⟨rfl, rfl⟩ | ⟨rfl, rfl⟩
    · exact Or.inr ⟨1, by decide, w_set_2 hX, hM⟩
    · exact Or.inr ⟨2, by decide, w_set_1 hX, hM⟩
theorem v_point {x1 x2 : Int32} (h2 : S 2 = A) (h154 : S 154 = A) (hR : Rel A M) (hI : Inv A B) (hB : B + 90 < 1000000) : OpW kL_point kX8_point [.ref 1, .int x1, .int x2, .ref 340] [.int x1, .int x2] S M A B := by
  have h : OpV kX7_point kX8_point [.int x1, .int x2] [(2, 1), (5, 2)] (.int 0) S M A B _ := op_point h2 h154 hR hI
  rcases h with ⟨v, S2, A2, ⟨r, rfl⟩, e1, e2, hI2, hX, hM⟩ | ⟨e, t, he, hX, hM⟩
  · exact Or.inl ⟨r, S2, A2, e1, e2, hI2, w_point hX, hM⟩
  · simp only [List.mem_cons, Prod.mk.injEq, List.not_mem_nil, or_false] at he
    rcases he with ⟨rfl, rfl⟩ | ⟨rfl, rfl⟩
    · exact Or.inr ⟨1, by decide, w_point_2 hX, hM⟩
    · exact Or.inr ⟨2, by decide, w_point_5 hX, hM⟩
theorem v_fan {x1 x2 x3 x4 : Int32} (h2 : S 2 = A) (h154 : S 154 = A) (hR : Rel A M) (hI : Inv A B) (hB : B + 90 < 1000000) : OpW kL_fan kX8_fan [.ref 1, .int x1, .int x2, .int x3, .int x4, .ref 340] [.int x1, .int x2, .int x3, .int x4] S M A B := by
  have h : OpV kX7_fan kX8_fan [.int x1, .int x2, .int x3, .int x4] [(5, 1), (1, 2)] (.int 0) S M A B _ := op_fan h2 h154 hR hI
  rcases h with ⟨v, S2, A2, ⟨r, rfl⟩, e1, e2, hI2, hX, hM⟩ | ⟨e, t, he, hX, hM⟩
  · exact Or.inl ⟨r, S2, A2, e1, e2, hI2, w_fan hX, hM⟩
  · simp only [List.mem_cons, Prod.mk.injEq, List.not_mem_nil, or_false] at he
    rcases he with ⟨rfl, rfl⟩ | ⟨rfl, rfl⟩
    · exact Or.inr ⟨1, by decide, w_fan_5 hX, hM⟩
    · exact Or.inr ⟨2, by decide, w_fan_1 hX, hM⟩
theorem v_knockOut {x1 x2 : Int32} (h2 : S 2 = A) (h154 : S 154 = A) (hR : Rel A M) (hI : Inv A B) (hB : B + 90 < 1000000) : OpW kL_knockOut kX8_knockOut [.ref 1, .int x1, .int x2, .ref 340] [.int x1, .int x2] S M A B := by
  have h : OpV kX7_knockOut kX8_knockOut [.int x1, .int x2] [(2, 1), (1, 2), (5, 3)] (.int 0) S M A B _ := op_knockOut h2 h154 hR hI
  rcases h with ⟨v, S2, A2, ⟨r, rfl⟩, e1, e2, hI2, hX, hM⟩ | ⟨e, t, he, hX, hM⟩
  · exact Or.inl ⟨r, S2, A2, e1, e2, hI2, w_knockOut hX, hM⟩
  · simp only [List.mem_cons, Prod.mk.injEq, List.not_mem_nil, or_false] at he
    rcases he with ⟨rfl, rfl⟩ | ⟨rfl, rfl⟩ | ⟨rfl, rfl⟩
    · exact Or.inr ⟨1, by decide, w_knockOut_2 hX, hM⟩
    · exact Or.inr ⟨2, by decide, w_knockOut_1 hX, hM⟩
    · exact Or.inr ⟨3, by decide, w_knockOut_5 hX, hM⟩
theorem v_record {x1 : Int32} (h2 : S 2 = A) (h154 : S 154 = A) (hR : Rel A M) (hI : Inv A B) (hB : B + 90 < 1000000) : OpW kL_record kX8_record [.ref 1, .int x1, .ref 340] [.int x1] S M A B := by
  have h : OpV kX7_record kX8_record [.int x1] [(2, 1), (4, 2), (0, 3)] (.int 0) S M A B _ := op_record h2 h154 hR hI
  rcases h with ⟨v, S2, A2, ⟨r, rfl⟩, e1, e2, hI2, hX, hM⟩ | ⟨e, t, he, hX, hM⟩
  · exact Or.inl ⟨r, S2, A2, e1, e2, hI2, w_record hX, hM⟩
  · simp only [List.mem_cons, Prod.mk.injEq, List.not_mem_nil, or_false] at he
    rcases he with ⟨rfl, rfl⟩ | ⟨rfl, rfl⟩ | ⟨rfl, rfl⟩
    · exact Or.inr ⟨1, by decide, w_record_2 hX, hM⟩
    · exact Or.inr ⟨2, by decide, w_record_4 hX, hM⟩
    · exact Or.inr ⟨3, by decide, w_record_0 hX, hM⟩
theorem v_setTimes {x1 x2 x3 x4 : Int32} (h2 : S 2 = A) (h154 : S 154 = A) (hR : Rel A M) (hI : Inv A B) (hB : B + 90 < 1000000) : OpW kL_setTimes kX8_setTimes [.ref 1, .int x1, .int x2, .int x3, .int x4, .ref 340] [.int x1, .int x2, .int x3, .int x4] S M A B := by
  have h : OpV kX7_setTimes kX8_setTimes [.int x1, .int x2, .int x3, .int x4] [(2, 1), (1, 2)] (.int 0) S M A B _ := op_setTimes h2 h154 hR hI
  rcases h with ⟨v, S2, A2, ⟨r, rfl⟩, e1, e2, hI2, hX, hM⟩ | ⟨e, t, he, hX, hM⟩
  · exact Or.inl ⟨r, S2, A2, e1, e2, hI2, w_setTimes hX, hM⟩
  · simp only [List.mem_cons, Prod.mk.injEq, List.not_mem_nil, or_false] at he
    rcases he with ⟨rfl, rfl⟩ | ⟨rfl, rfl⟩
    · exact Or.inr ⟨1, by decide, w_setTimes_2 hX, hM⟩
    · exact Or.inr ⟨2, by decide, w_setTimes_1 hX, hM⟩
theorem v_setFollow {x1 x2 x3 : Int32} (h2 : S 2 = A) (h154 : S 154 = A) (hR : Rel A M) (hI : Inv A B) (hB : B + 90 < 1000000) : OpW kL_setFollow kX8_setFollow [.ref 1, .int x1, .int x2, .int x3, .ref 340] [.int x1, .int x2, .int x3] S M A B := by
  have h : OpV kX7_setFollow kX8_setFollow [.int x1, .int x2, .int x3] [(2, 1), (1, 2)] (.int 0) S M A B _ := op_setFollow h2 h154 hR hI
  rcases h with ⟨v, S2, A2, ⟨r, rfl⟩, e1, e2, hI2, hX, hM⟩ | ⟨e, t, he, hX, hM⟩
  · exact Or.inl ⟨r, S2, A2, e1, e2, hI2, w_setFollow hX, hM⟩
  · simp only [List.mem_cons, Prod.mk.injEq, List.not_mem_nil, or_false] at he
    rcases he with ⟨rfl, rfl⟩ | ⟨rfl, rfl⟩
    · exact Or.inr ⟨1, by decide, w_setFollow_2 hX, hM⟩
    · exact Or.inr ⟨2, by decide, w_setFollow_1 hX, hM⟩
theorem v_setLink {x1 x2 x3 : Int32} (h2 : S 2 = A) (h154 : S 154 = A) (hR : Rel A M) (hI : Inv A B) (hB : B + 90 < 1000000) : OpW kL_setLink kX8_setLink [.ref 1, .int x1, .int x2, .int x3, .ref 340] [.int x1, .int x2, .int x3] S M A B := by
  have h : OpV kX7_setLink kX8_setLink [.int x1, .int x2, .int x3] [(2, 1), (1, 2)] (.int 0) S M A B _ := op_setLink h2 h154 hR hI
  rcases h with ⟨v, S2, A2, ⟨r, rfl⟩, e1, e2, hI2, hX, hM⟩ | ⟨e, t, he, hX, hM⟩
  · exact Or.inl ⟨r, S2, A2, e1, e2, hI2, w_setLink hX, hM⟩
  · simp only [List.mem_cons, Prod.mk.injEq, List.not_mem_nil, or_false] at he
    rcases he with ⟨rfl, rfl⟩ | ⟨rfl, rfl⟩
    · exact Or.inr ⟨1, by decide, w_setLink_2 hX, hM⟩
    · exact Or.inr ⟨2, by decide, w_setLink_1 hX, hM⟩
theorem v_setCode {x1 x2 x3 : Int32} (h2 : S 2 = A) (h154 : S 154 = A) (hR : Rel A M) (hI : Inv A B) (hB : B + 90 < 1000000) : OpW kL_setCode kX8_setCode [.ref 1, .int x1, .int x2, .int x3, .ref 340] [.int x1, .int x2, .int x3] S M A B := by
  have h : OpV kX7_setCode kX8_setCode [.int x1, .int x2, .int x3] [(2, 1), (1, 2)] (.int 0) S M A B _ := op_setCode h2 h154 hR hI
  rcases h with ⟨v, S2, A2, ⟨r, rfl⟩, e1, e2, hI2, hX, hM⟩ | ⟨e, t, he, hX, hM⟩
  · exact Or.inl ⟨r, S2, A2, e1, e2, hI2, w_setCode hX, hM⟩
  · simp only [List.mem_cons, Prod.mk.injEq, List.not_mem_nil, or_false] at he
    rcases he with ⟨rfl, rfl⟩ | ⟨rfl, rfl⟩
    · exact Or.inr ⟨1, by decide, w_setCode_2 hX, hM⟩
    · exact Or.inr ⟨2, by decide, w_setCode_1 hX, hM⟩
theorem v_setAssert {x1 x2 x3 : Int32} (hw : isZ x3) (h2 : S 2 = A) (h154 : S 154 = A) (hR : Rel A M) (hI : Inv A B) (hB : B + 90 < 1000000) : OpZ kL_setAssert kX8_setAssert [.ref 1, .int x1, .int x2, .int x3, .ref 340] [.int x1, .int x2, .int x3] S M A B := by
  have h : OpV kX7_setAssert kX8_setAssert [.int x1, .int x2, .int x3] [(2, 1)] (.int 0) S M A B _ := op_setAssert hw h2 h154 hR hI
  rcases h with ⟨v, S2, A2, ⟨r, rfl, hz⟩, e1, e2, hI2, hX, hM⟩ | ⟨e, t, he, hX, hM⟩
  · exact Or.inl ⟨r, S2, A2, hz, e1, e2, hI2, w_setAssert hz hX, hM⟩
  · simp only [List.mem_cons, Prod.mk.injEq, List.not_mem_nil, or_false] at he
    rcases he with ⟨rfl, rfl⟩
    · exact Or.inr ⟨1, by decide, w_setAssert_2 hX, hM⟩
theorem v_setMaster {x1 x2 : Int32} (h2 : S 2 = A) (h154 : S 154 = A) (hR : Rel A M) (hI : Inv A B) (hB : B + 90 < 1000000) : OpW kL_setMaster kX8_setMaster [.ref 1, .int x1, .int x2, .ref 340] [.int x1, .int x2] S M A B := by
  have h : OpV kX7_setMaster kX8_setMaster [.int x1, .int x2] [(2, 1), (1, 2)] (.int 0) S M A B _ := op_setMaster h2 h154 hR hI
  rcases h with ⟨v, S2, A2, ⟨r, rfl⟩, e1, e2, hI2, hX, hM⟩ | ⟨e, t, he, hX, hM⟩
  · exact Or.inl ⟨r, S2, A2, e1, e2, hI2, w_setMaster hX, hM⟩
  · simp only [List.mem_cons, Prod.mk.injEq, List.not_mem_nil, or_false] at he
    rcases he with ⟨rfl, rfl⟩ | ⟨rfl, rfl⟩
    · exact Or.inr ⟨1, by decide, w_setMaster_2 hX, hM⟩
    · exact Or.inr ⟨2, by decide, w_setMaster_1 hX, hM⟩
theorem v_setPriority {x1 x2 : Int32} (h2 : S 2 = A) (h154 : S 154 = A) (hR : Rel A M) (hI : Inv A B) (hB : B + 90 < 1000000) : OpW kL_setPriority kX8_setPriority [.ref 1, .int x1, .int x2, .ref 340] [.int x1, .int x2] S M A B := by
  have h : OpV kX7_setPriority kX8_setPriority [.int x1, .int x2] [(2, 1), (1, 2)] (.int 0) S M A B _ := op_setPriority h2 h154 hR hI
  rcases h with ⟨v, S2, A2, ⟨r, rfl⟩, e1, e2, hI2, hX, hM⟩ | ⟨e, t, he, hX, hM⟩
  · exact Or.inl ⟨r, S2, A2, e1, e2, hI2, w_setPriority hX, hM⟩
  · simp only [List.mem_cons, Prod.mk.injEq, List.not_mem_nil, or_false] at he
    rcases he with ⟨rfl, rfl⟩ | ⟨rfl, rfl⟩
    · exact Or.inr ⟨1, by decide, w_setPriority_2 hX, hM⟩
    · exact Or.inr ⟨2, by decide, w_setPriority_1 hX, hM⟩
theorem v_go {x1 : Int32} (h2 : S 2 = A) (h154 : S 154 = A) (hR : Rel A M) (hI : Inv A B) (hB : B + 90 < 1000000) : OpW kL_go kX8_go [.ref 1, .int x1, .ref 340] [.int x1] S M A B := by
  have h : OpV kX7_go kX8_go [.int x1] [(2, 1), (0, 2)] (.int 0) S M A B _ := op_go h2 h154 hR hI (by omega)
  rcases h with ⟨v, S2, A2, ⟨r, rfl⟩, e1, e2, hI2, hX, hM⟩ | ⟨e, t, he, hX, hM⟩
  · exact Or.inl ⟨r, S2, A2, e1, e2, hI2, w_go hX, hM⟩
  · simp only [List.mem_cons, Prod.mk.injEq, List.not_mem_nil, or_false] at he
    rcases he with ⟨rfl, rfl⟩ | ⟨rfl, rfl⟩
    · exact Or.inr ⟨1, by decide, w_go_2 hX, hM⟩
    · exact Or.inr ⟨2, by decide, w_go_0 hX, hM⟩
theorem v_goTo {x1 x2 : Int32} (h2 : S 2 = A) (h154 : S 154 = A) (hR : Rel A M) (hI : Inv A B) (hB : B + 90 < 1000000) : OpW kL_goTo kX8_goTo [.ref 1, .int x1, .int x2, .ref 340] [.int x1, .int x2] S M A B := by
  have h : OpV kX7_goTo kX8_goTo [.int x1, .int x2] [(2, 1)] (.int 0) S M A B _ := op_goTo h2 h154 hR hI (by omega)
  rcases h with ⟨v, S2, A2, ⟨r, rfl⟩, e1, e2, hI2, hX, hM⟩ | ⟨e, t, he, hX, hM⟩
  · exact Or.inl ⟨r, S2, A2, e1, e2, hI2, w_goTo hX, hM⟩
  · simp only [List.mem_cons, Prod.mk.injEq, List.not_mem_nil, or_false] at he
    rcases he with ⟨rfl, rfl⟩
    · exact Or.inr ⟨1, by decide, w_goTo_2 hX, hM⟩
theorem v_release {x1 : Int32} (h2 : S 2 = A) (h154 : S 154 = A) (hR : Rel A M) (hI : Inv A B) (hB : B + 90 < 1000000) : OpW kL_release kX8_release [.ref 1, .int x1, .ref 340] [.int x1] S M A B := by
  have h : OpV kX7_release kX8_release [.int x1] [(2, 1), (0, 2)] (.int 0) S M A B _ := op_release h2 h154 hR hI
  rcases h with ⟨v, S2, A2, ⟨r, rfl⟩, e1, e2, hI2, hX, hM⟩ | ⟨e, t, he, hX, hM⟩
  · exact Or.inl ⟨r, S2, A2, e1, e2, hI2, w_release hX, hM⟩
  · simp only [List.mem_cons, Prod.mk.injEq, List.not_mem_nil, or_false] at he
    rcases he with ⟨rfl, rfl⟩ | ⟨rfl, rfl⟩
    · exact Or.inr ⟨1, by decide, w_release_2 hX, hM⟩
    · exact Or.inr ⟨2, by decide, w_release_0 hX, hM⟩
theorem v_update {x1 : Int32} (h2 : S 2 = A) (h154 : S 154 = A) (hR : Rel A M) (hI : Inv A B) (hB : B + 90 < 1000000) : OpW kL_update kX8_update [.ref 1, .int x1, .ref 340] [.int x1] S M A B := by
  have h : OpV kX7_update kX8_update [.int x1] [(2, 1), (0, 2)] (.int 0) S M A B _ := op_update h2 h154 hR hI
  rcases h with ⟨v, S2, A2, ⟨r, rfl⟩, e1, e2, hI2, hX, hM⟩ | ⟨e, t, he, hX, hM⟩
  · exact Or.inl ⟨r, S2, A2, e1, e2, hI2, w_update hX, hM⟩
  · simp only [List.mem_cons, Prod.mk.injEq, List.not_mem_nil, or_false] at he
    rcases he with ⟨rfl, rfl⟩ | ⟨rfl, rfl⟩
    · exact Or.inr ⟨1, by decide, w_update_2 hX, hM⟩
    · exact Or.inr ⟨2, by decide, w_update_0 hX, hM⟩
theorem v_pass {x1 : Int32} (h2 : S 2 = A) (h154 : S 154 = A) (hR : Rel A M) (hI : Inv A B) (hB : B + 90 < 1000000) : OpW kL_pass kX8_pass [.ref 1, .int x1, .ref 340] [.int x1] S M A B := by
  have h : OpV kX7_pass kX8_pass [.int x1] [(1, 1), (0, 2)] (.int 0) S M A B _ := op_pass h2 h154 hR hI hB
  rcases h with ⟨v, S2, A2, ⟨r, rfl⟩, e1, e2, hI2, hX, hM⟩ | ⟨e, t, he, hX, hM⟩
  · exact Or.inl ⟨r, S2, A2, e1, e2, hI2, w_pass hX, hM⟩
  · simp only [List.mem_cons, Prod.mk.injEq, List.not_mem_nil, or_false] at he
    rcases he with ⟨rfl, rfl⟩ | ⟨rfl, rfl⟩
    · exact Or.inr ⟨1, by decide, w_pass_1 hX, hM⟩
    · exact Or.inr ⟨2, by decide, w_pass_0 hX, hM⟩
theorem v_code {x1 : Int32} (h2 : S 2 = A) (h154 : S 154 = A) (hR : Rel A M) (hI : Inv A B) (hB : B + 90 < 1000000) : OpW kL_code kX8_code [.ref 1, .int x1, .ref 340] [.int x1] S M A B := by
  have h : OpV kX7_code kX8_code [.int x1] [(1, 1)] (.int 0) S M A B _ := op_code h2 h154 hR hI hB
  rcases h with ⟨v, S2, A2, ⟨r, rfl⟩, e1, e2, hI2, hX, hM⟩ | ⟨e, t, he, hX, hM⟩
  · exact Or.inl ⟨r, S2, A2, e1, e2, hI2, w_code hX, hM⟩
  · simp only [List.mem_cons, Prod.mk.injEq, List.not_mem_nil, or_false] at he
    rcases he with ⟨rfl, rfl⟩
    · exact Or.inr ⟨1, by decide, w_code_1 hX, hM⟩
theorem v_addEffect {x1 x2 x3 x4 x5 x6 : Int32} (h2 : S 2 = A) (h154 : S 154 = A) (hR : Rel A M) (hI : Inv A B) (hB : B + 90 < 1000000) : OpW kL_addEffect kX8_addEffect [.ref 1, .int x1, .int x2, .int x3, .int x4, .int x5, .int x6, .ref 340] [.int x1, .int x2, .int x3, .int x4, .int x5, .int x6] S M A B := by
  have h : OpV kX7_addEffect kX8_addEffect [.int x1, .int x2, .int x3, .int x4, .int x5, .int x6] [(5, 1), (1, 2), (0, 3)] (.int 0) S M A B _ := op_addEffect h2 h154 hR hI
  rcases h with ⟨v, S2, A2, ⟨r, rfl⟩, e1, e2, hI2, hX, hM⟩ | ⟨e, t, he, hX, hM⟩
  · exact Or.inl ⟨r, S2, A2, e1, e2, hI2, w_addEffect hX, hM⟩
  · simp only [List.mem_cons, Prod.mk.injEq, List.not_mem_nil, or_false] at he
    rcases he with ⟨rfl, rfl⟩ | ⟨rfl, rfl⟩ | ⟨rfl, rfl⟩
    · exact Or.inr ⟨1, by decide, w_addEffect_5 hX, hM⟩
    · exact Or.inr ⟨2, by decide, w_addEffect_1 hX, hM⟩
    · exact Or.inr ⟨3, by decide, w_addEffect_0 hX, hM⟩
theorem v_start {x1 : Int32} (h2 : S 2 = A) (h154 : S 154 = A) (hR : Rel A M) (hI : Inv A B) (hB : B + 90 < 1000000) : OpW kL_start kX8_start [.ref 1, .int x1, .ref 340] [.int x1] S M A B := by
  have h : OpV kX7_start kX8_start [.int x1] [(5, 1), (0, 2)] (.int 0) S M A B _ := op_start h2 h154 hR hI
  rcases h with ⟨v, S2, A2, ⟨r, rfl⟩, e1, e2, hI2, hX, hM⟩ | ⟨e, t, he, hX, hM⟩
  · exact Or.inl ⟨r, S2, A2, e1, e2, hI2, w_start hX, hM⟩
  · simp only [List.mem_cons, Prod.mk.injEq, List.not_mem_nil, or_false] at he
    rcases he with ⟨rfl, rfl⟩ | ⟨rfl, rfl⟩
    · exact Or.inr ⟨1, by decide, w_start_5 hX, hM⟩
    · exact Or.inr ⟨2, by decide, w_start_0 hX, hM⟩
theorem v_stop {x1 : Int32} (h2 : S 2 = A) (h154 : S 154 = A) (hR : Rel A M) (hI : Inv A B) (hB : B + 90 < 1000000) : OpW kL_stop kX8_stop [.ref 1, .int x1, .ref 340] [.int x1] S M A B := by
  have h : OpV kX7_stop kX8_stop [.int x1] [(5, 1), (0, 2)] (.int 0) S M A B _ := op_stop h2 h154 hR hI
  rcases h with ⟨v, S2, A2, ⟨r, rfl⟩, e1, e2, hI2, hX, hM⟩ | ⟨e, t, he, hX, hM⟩
  · exact Or.inl ⟨r, S2, A2, e1, e2, hI2, w_stop hX, hM⟩
  · simp only [List.mem_cons, Prod.mk.injEq, List.not_mem_nil, or_false] at he
    rcases he with ⟨rfl, rfl⟩ | ⟨rfl, rfl⟩
    · exact Or.inr ⟨1, by decide, w_stop_5 hX, hM⟩
    · exact Or.inr ⟨2, by decide, w_stop_0 hX, hM⟩
theorem v_output {x1 x2 : Int32} (h2 : S 2 = A) (h154 : S 154 = A) (hR : Rel A M) (hI : Inv A B) (hB : B + 90 < 1000000) : OpW kL_output kX8_output [.ref 1, .int x1, .int x2, .ref 340] [.int x1, .int x2] S M A B := by
  have h : OpV kX7_output kX8_output [.int x1, .int x2] [(2, 1), (1, 2)] (.int 0) S M A B _ := op_output h2 h154 hR hI (by omega)
  rcases h with ⟨v, S2, A2, ⟨r, rfl⟩, e1, e2, hI2, hX, hM⟩ | ⟨e, t, he, hX, hM⟩
  · exact Or.inl ⟨r, S2, A2, e1, e2, hI2, w_output hX, hM⟩
  · simp only [List.mem_cons, Prod.mk.injEq, List.not_mem_nil, or_false] at he
    rcases he with ⟨rfl, rfl⟩ | ⟨rfl, rfl⟩
    · exact Or.inr ⟨1, by decide, w_output_2 hX, hM⟩
    · exact Or.inr ⟨2, by decide, w_output_1 hX, hM⟩
theorem v_outputBits {x1 x2 : Int32} (h2 : S 2 = A) (h154 : S 154 = A) (hR : Rel A M) (hI : Inv A B) (hB : B + 90 < 1000000) : OpW kL_outputBits kX8_outputBits [.ref 1, .int x1, .int x2, .ref 340] [.int x1, .int x2] S M A B := by
  have h : OpV kX7_outputBits kX8_outputBits [.int x1, .int x2] [(2, 1), (1, 2)] (.int 0) S M A B _ := op_outputBits h2 h154 hR hI (by omega)
  rcases h with ⟨v, S2, A2, ⟨r, rfl⟩, e1, e2, hI2, hX, hM⟩ | ⟨e, t, he, hX, hM⟩
  · exact Or.inl ⟨r, S2, A2, e1, e2, hI2, w_outputBits hX, hM⟩
  · simp only [List.mem_cons, Prod.mk.injEq, List.not_mem_nil, or_false] at he
    rcases he with ⟨rfl, rfl⟩ | ⟨rfl, rfl⟩
    · exact Or.inr ⟨1, by decide, w_outputBits_2 hX, hM⟩
    · exact Or.inr ⟨2, by decide, w_outputBits_1 hX, hM⟩
theorem v_line {x1 : Int32} (h2 : S 2 = A) (h154 : S 154 = A) (hR : Rel A M) (hI : Inv A B) (hB : B + 90 < 1000000) : OpW kL_line kX8_line [.ref 1, .int x1, .ref 340] [.int x1] S M A B := by
  have h : OpV kX7_line kX8_line [.int x1] [(1, 1)] (.int 0) S M A B _ := op_line h2 h154 hR hI (by omega)
  rcases h with ⟨v, S2, A2, ⟨r, rfl⟩, e1, e2, hI2, hX, hM⟩ | ⟨e, t, he, hX, hM⟩
  · exact Or.inl ⟨r, S2, A2, e1, e2, hI2, w_line hX, hM⟩
  · simp only [List.mem_cons, Prod.mk.injEq, List.not_mem_nil, or_false] at he
    rcases he with ⟨rfl, rfl⟩
    · exact Or.inr ⟨1, by decide, w_line_1 hX, hM⟩
theorem v_decides {x1 x2 : Int32} (h2 : S 2 = A) (h154 : S 154 = A) (hR : Rel A M) (hI : Inv A B) (hB : B + 90 < 1000000) : OpW kL_decides kX8_decides [.ref 1, .int x1, .int x2, .ref 340] [.int x1, .int x2] S M A B := by
  have h : OpV kX7_decides kX8_decides [.int x1, .int x2] [(2, 1), (1, 2), (5, 3)] (.int 0) S M A B _ := op_decides h2 h154 hR hI (by omega)
  rcases h with ⟨v, S2, A2, ⟨r, rfl⟩, e1, e2, hI2, hX, hM⟩ | ⟨e, t, he, hX, hM⟩
  · exact Or.inl ⟨r, S2, A2, e1, e2, hI2, w_decides hX, hM⟩
  · simp only [List.mem_cons, Prod.mk.injEq, List.not_mem_nil, or_false] at he
    rcases he with ⟨rfl, rfl⟩ | ⟨rfl, rfl⟩ | ⟨rfl, rfl⟩
    · exact Or.inr ⟨1, by decide, w_decides_2 hX, hM⟩
    · exact Or.inr ⟨2, by decide, w_decides_1 hX, hM⟩
    · exact Or.inr ⟨3, by decide, w_decides_5 hX, hM⟩
theorem v_valueIn {x1 x2 x3 : Int32} (h2 : S 2 = A) (h154 : S 154 = A) (hR : Rel A M) (hI : Inv A B) (hB : B + 90 < 1000000) : OpW kL_valueIn kX8_valueIn [.ref 1, .int x1, .int x2, .int x3, .ref 340] [.int x1, .int x2, .int x3] S M A B := by
  have h : OpV kX7_valueIn kX8_valueIn [.int x1, .int x2, .int x3] [(2, 1), (1, 2), (5, 3)] (.int 0) S M A B _ := op_valueIn h2 h154 hR hI
  rcases h with ⟨v, S2, A2, ⟨r, rfl⟩, e1, e2, hI2, hX, hM⟩ | ⟨e, t, he, hX, hM⟩
  · exact Or.inl ⟨r, S2, A2, e1, e2, hI2, w_valueIn hX, hM⟩
  · simp only [List.mem_cons, Prod.mk.injEq, List.not_mem_nil, or_false] at he
    rcases he with ⟨rfl, rfl⟩ | ⟨rfl, rfl⟩ | ⟨rfl, rfl⟩
    · exact Or.inr ⟨1, by decide, w_valueIn_2 hX, hM⟩
    · exact Or.inr ⟨2, by decide, w_valueIn_1 hX, hM⟩
    · exact Or.inr ⟨3, by decide, w_valueIn_5 hX, hM⟩
theorem v_tracked {x1 x2 x3 x4 : Int32} (h2 : S 2 = A) (h154 : S 154 = A) (hR : Rel A M) (hI : Inv A B) (hB : B + 90 < 1000000) : OpW kL_tracked kX8_tracked [.ref 1, .int x1, .int x2, .int x3, .int x4, .ref 340] [.int x1, .int x2, .int x3, .int x4] S M A B := by
  have h : OpV kX7_tracked kX8_tracked [.int x1, .int x2, .int x3, .int x4] [(2, 1), (1, 2), (5, 3)] (.int 0) S M A B _ := op_tracked h2 h154 hR hI
  rcases h with ⟨v, S2, A2, ⟨r, rfl⟩, e1, e2, hI2, hX, hM⟩ | ⟨e, t, he, hX, hM⟩
  · exact Or.inl ⟨r, S2, A2, e1, e2, hI2, w_tracked hX, hM⟩
  · simp only [List.mem_cons, Prod.mk.injEq, List.not_mem_nil, or_false] at he
    rcases he with ⟨rfl, rfl⟩ | ⟨rfl, rfl⟩ | ⟨rfl, rfl⟩
    · exact Or.inr ⟨1, by decide, w_tracked_2 hX, hM⟩
    · exact Or.inr ⟨2, by decide, w_tracked_1 hX, hM⟩
    · exact Or.inr ⟨3, by decide, w_tracked_5 hX, hM⟩
theorem v_source {x1 x2 x3 x4 : Int32} (h2 : S 2 = A) (h154 : S 154 = A) (hR : Rel A M) (hI : Inv A B) (hB : B + 90 < 1000000) : OpW kL_source kX8_source [.ref 1, .int x1, .int x2, .int x3, .int x4, .ref 340] [.int x1, .int x2, .int x3, .int x4] S M A B := by
  have h : OpV kX7_source kX8_source [.int x1, .int x2, .int x3, .int x4] [(2, 1), (1, 2), (5, 3)] (.int 0) S M A B _ := op_source h2 h154 hR hI
  rcases h with ⟨v, S2, A2, ⟨r, rfl⟩, e1, e2, hI2, hX, hM⟩ | ⟨e, t, he, hX, hM⟩
  · exact Or.inl ⟨r, S2, A2, e1, e2, hI2, w_source hX, hM⟩
  · simp only [List.mem_cons, Prod.mk.injEq, List.not_mem_nil, or_false] at he
    rcases he with ⟨rfl, rfl⟩ | ⟨rfl, rfl⟩ | ⟨rfl, rfl⟩
    · exact Or.inr ⟨1, by decide, w_source_2 hX, hM⟩
    · exact Or.inr ⟨2, by decide, w_source_1 hX, hM⟩
    · exact Or.inr ⟨3, by decide, w_source_5 hX, hM⟩
theorem v_paletteOf {x1 x2 x3 x4 : Int32} (h2 : S 2 = A) (h154 : S 154 = A) (hR : Rel A M) (hI : Inv A B) (hB : B + 90 < 1000000) : OpW kL_paletteOf kX8_paletteOf [.ref 1, .int x1, .int x2, .int x3, .int x4, .ref 340] [.int x1, .int x2, .int x3, .int x4] S M A B := by
  have h : OpV kX7_paletteOf kX8_paletteOf [.int x1, .int x2, .int x3, .int x4] [(2, 1), (1, 2), (5, 3)] (.int 0) S M A B _ := op_paletteOf h2 h154 hR hI
  rcases h with ⟨v, S2, A2, ⟨r, rfl⟩, e1, e2, hI2, hX, hM⟩ | ⟨e, t, he, hX, hM⟩
  · exact Or.inl ⟨r, S2, A2, e1, e2, hI2, w_paletteOf hX, hM⟩
  · simp only [List.mem_cons, Prod.mk.injEq, List.not_mem_nil, or_false] at he
    rcases he with ⟨rfl, rfl⟩ | ⟨rfl, rfl⟩ | ⟨rfl, rfl⟩
    · exact Or.inr ⟨1, by decide, w_paletteOf_2 hX, hM⟩
    · exact Or.inr ⟨2, by decide, w_paletteOf_1 hX, hM⟩
    · exact Or.inr ⟨3, by decide, w_paletteOf_5 hX, hM⟩
theorem v_cueOf {x1 : Int32} (h2 : S 2 = A) (h154 : S 154 = A) (hR : Rel A M) (hI : Inv A B) (hB : B + 90 < 1000000) : OpW kL_cueOf kX8_cueOf [.ref 1, .int x1, .ref 340] [.int x1] S M A B := by
  have h : OpV kX7_cueOf kX8_cueOf [.int x1] [(2, 1), (5, 2)] (.int 0) S M A B _ := op_cueOf h2 h154 hR hI
  rcases h with ⟨v, S2, A2, ⟨r, rfl⟩, e1, e2, hI2, hX, hM⟩ | ⟨e, t, he, hX, hM⟩
  · exact Or.inl ⟨r, S2, A2, e1, e2, hI2, w_cueOf hX, hM⟩
  · simp only [List.mem_cons, Prod.mk.injEq, List.not_mem_nil, or_false] at he
    rcases he with ⟨rfl, rfl⟩ | ⟨rfl, rfl⟩
    · exact Or.inr ⟨1, by decide, w_cueOf_2 hX, hM⟩
    · exact Or.inr ⟨2, by decide, w_cueOf_5 hX, hM⟩
theorem v_cues {x1 : Int32} (h2 : S 2 = A) (h154 : S 154 = A) (hR : Rel A M) (hI : Inv A B) (hB : B + 90 < 1000000) : OpW kL_cues kX8_cues [.ref 1, .int x1, .ref 340] [.int x1] S M A B := by
  have h : OpV kX7_cues kX8_cues [.int x1] [(2, 1)] (.int 0) S M A B _ := op_cues h2 h154 hR hI
  rcases h with ⟨v, S2, A2, ⟨r, rfl⟩, e1, e2, hI2, hX, hM⟩ | ⟨e, t, he, hX, hM⟩
  · exact Or.inl ⟨r, S2, A2, e1, e2, hI2, w_cues hX, hM⟩
  · simp only [List.mem_cons, Prod.mk.injEq, List.not_mem_nil, or_false] at he
    rcases he with ⟨rfl, rfl⟩
    · exact Or.inr ⟨1, by decide, w_cues_2 hX, hM⟩
theorem v_isFading {x1 : Int32} (h2 : S 2 = A) (h154 : S 154 = A) (hR : Rel A M) (hI : Inv A B) (hB : B + 90 < 1000000) : OpZ kL_isFading kX8_isFading [.ref 1, .int x1, .ref 340] [.int x1] S M A B := by
  have h : OpV kX7_isFading kX8_isFading [.int x1] [(2, 1)] (.int 0) S M A B _ := op_isFading h2 h154 hR hI
  rcases h with ⟨v, S2, A2, ⟨r, rfl, hz⟩, e1, e2, hI2, hX, hM⟩ | ⟨e, t, he, hX, hM⟩
  · exact Or.inl ⟨r, S2, A2, hz, e1, e2, hI2, w_isFading hz hX, hM⟩
  · simp only [List.mem_cons, Prod.mk.injEq, List.not_mem_nil, or_false] at he
    rcases he with ⟨rfl, rfl⟩
    · exact Or.inr ⟨1, by decide, w_isFading_2 hX, hM⟩
theorem v_litShare (h2 : S 2 = A) (h154 : S 154 = A) (hR : Rel A M) (hI : Inv A B) (hB : B + 90 < 1000000) :
    (∃ (r : UInt32) (S2 : Nat → St) (A2 : St), FP.Core.DFin (FP.f2d r) ∧ S2 2 = A2 ∧ S2 154 = A2 ∧ Inv A2 (B + 90) ∧ LOk kL_litShare [.ref 1, .ref 341] S M S2 (fun z => setD z (FP.f2d r)) ∧ MOk kX8_litShare [] S2 M A2 0 (.float r)) ∨
    (∃ t : Int32, ¬ t = 0 ∧ LEx kL_litShare [.ref 1, .ref 341] S M t ∧ MOk kX8_litShare [] S M A t (.float FP.fconst0)) := by
  rcases op_litShare h2 h154 hR hI (by omega) with ⟨v, S2, A2, ⟨r, rfl, hr⟩, e1, e2, hI2, hX, hM⟩ | ⟨e, t, he, hX, hM⟩
  · have hn : FP.Core.DFin (FP.f2d r) := fin_f2d (fin_of hr)
    exact Or.inl ⟨r, S2, A2, hn, e1, e2, hI2, w_litShare (nn_dfin hn) hX, hM⟩
  · simp only [List.mem_cons, Prod.mk.injEq, List.not_mem_nil, or_false] at he
    obtain ⟨rfl, rfl⟩ := he
    exact Or.inr ⟨1, by decide, w_litShare_3 hX, hM⟩
theorem v_meanStored (h2 : S 2 = A) (h154 : S 154 = A) (hR : Rel A M) (hI : Inv A B) :
    (∃ (r : UInt64) (S2 : Nat → St) (A2 : St), FP.Core.DFin r ∧ S2 2 = A2 ∧ S2 154 = A2 ∧ Inv A2 (B + 90) ∧ LOk kL_meanStored [.ref 1, .ref 341] S M S2 (fun z => setD z r) ∧ MOk kX8_meanStored [] S2 M A2 0 (.double r)) ∨
    (∃ t : Int32, ¬ t = 0 ∧ LEx kL_meanStored [.ref 1, .ref 341] S M t ∧ MOk kX8_meanStored [] S M A t (.double FP.dconst0)) := by
  rcases op_meanStored h2 h154 hR hI with ⟨v, S2, A2, ⟨r, rfl, hr⟩, e1, e2, hI2, hX, hM⟩ | ⟨e, t, he, hX, hM⟩
  · exact Or.inl ⟨r, S2, A2, hr, e1, e2, hI2, w_meanStored hX, hM⟩
  · simp only [List.mem_cons, Prod.mk.injEq, List.not_mem_nil, or_false] at he
    obtain ⟨rfl, rfl⟩ := he
    exact Or.inr ⟨1, by decide, w_meanStored_3 hX, hM⟩
end OPW
