/-! the law's decode rows, on -/
theorem zz_5_0 : ∀ q ∈ (LcL_law_5).take 50, decode cL_law q.1 = .ok (q.2, ilen q.2) := by decide +kernel
theorem zz_5_1 : ∀ q ∈ ((LcL_law_5).drop 50).take 50, decode cL_law q.1 = .ok (q.2, ilen q.2) := by decide +kernel
