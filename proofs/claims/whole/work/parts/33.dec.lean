/-! the decode rows, all of them, out of the parts' list of rows (90.code) -/
theorem dec_of (hP : ∀ q ∈ codeT.zip (methT.map fun r => r.2.2.1), ∀ z ∈ q.1, decode q.2 z.1 = .ok (z.2, ilen z.2)) : Dec := by
  intro k pc i hi
  unfold ins at hi
  have hc : codeT.length = 233 := rfl
  have hm : methT.length = 233 := rfl
  by_cases h : k < 233
  · have h1 : k < codeT.length := by omega
    have h2 : k < methT.length := by omega
    have hk : k < (codeT.zip (methT.map fun r => r.2.2.1)).length := by rw [List.length_zip, List.length_map]; omega
    have hz := List.getElem_mem hk
    rw [List.getElem_zip, List.getElem_map] at hz
    have e1 : codeT.getD k [] = codeT[k] := by rw [List.getD_eq_getElem?_getD, List.getElem?_eq_getElem h1]; rfl
    have e2 : mB k = (methT[k]).2.2.1 := by
      unfold mB mRow
      rw [List.getD_eq_getElem?_getD, List.getElem?_eq_getElem h2]
      rfl
    rw [e1] at hi
    rw [e2]
    exact hP _ hz (pc, i) (lookup_mem hi)
  · rw [List.getD_eq_getElem?_getD, List.getElem?_eq_none (by omega)] at hi
    cases hi
