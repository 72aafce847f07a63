/-! the law's decode rows, on -/
theorem zz_2_0 : ∀ q ∈ (LcL_law_2).take 50, decode cL_law q.1 = .ok (q.2, ilen q.2) := by decide +kernel
theorem zz_2_1 : ∀ q ∈ ((LcL_law_2).drop 50).take 50, decode cL_law q.1 = .ok (q.2, ilen q.2) := by decide +kernel
