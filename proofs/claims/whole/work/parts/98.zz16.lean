/-! the law's decode rows, on -/
theorem zz_7_2 : ∀ q ∈ (((LcL_law_7).drop 50).drop 50).take 50, decode cL_law q.1 = .ok (q.2, ilen q.2) := by decide +kernel
theorem zz_7_3 : ∀ q ∈ (((LcL_law_7).drop 50).drop 50).drop 50, decode cL_law q.1 = .ok (q.2, ilen q.2) := by decide +kernel
