/-! the law's decode rows, on -/
theorem zz_2_2 : ∀ q ∈ (((LcL_law_2).drop 50).drop 50).take 50, decode cL_law q.1 = .ok (q.2, ilen q.2) := by decide +kernel
theorem zz_2_3 : ∀ q ∈ (((LcL_law_2).drop 50).drop 50).drop 50, decode cL_law q.1 = .ok (q.2, ilen q.2) := by decide +kernel
