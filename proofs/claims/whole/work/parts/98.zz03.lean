/-! the law's decode rows, on -/
theorem zz_1_0 : ∀ q ∈ (LcL_law_1).take 50, decode cL_law q.1 = .ok (q.2, ilen q.2) := by decide +kernel
theorem zz_1_1 : ∀ q ∈ ((LcL_law_1).drop 50).take 50, decode cL_law q.1 = .ok (q.2, ilen q.2) := by decide +kernel
