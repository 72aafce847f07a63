/-! the law's decode rows, on -/
theorem zz_7_0 : ∀ q ∈ (LcL_law_7).take 50, decode cL_law q.1 = .ok (q.2, ilen q.2) := by decide +kernel
theorem zz_7_1 : ∀ q ∈ ((LcL_law_7).drop 50).take 50, decode cL_law q.1 = .ok (q.2, ilen q.2) := by decide +kernel
