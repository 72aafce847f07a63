/-! the law's decode rows, on -/
theorem zz_9_0 : ∀ q ∈ (LcL_law_9).take 50, decode cL_law q.1 = .ok (q.2, ilen q.2) := by decide +kernel
theorem zz_9_1 : ∀ q ∈ (LcL_law_9).drop 50, decode cL_law q.1 = .ok (q.2, ilen q.2) := by decide +kernel
