theorem mid3 (a b x : Int) : (insL b (insL a [x])).getD 1 0 = max (min a b) (min (max a b) x) ∧ (insL b (insL a [x])).length = 3 := by
  refine ⟨?_, by rw [insL_len, insL_len]; rfl⟩
  by_cases c1 : x ≤ a
  · rw [insL, if_pos c1, insL]
    by_cases c2 : x ≤ b
    · rw [insL, if_pos c2, insL]
      split
      · simp; omega
      · simp; omega
    · rw [insL, if_neg c2]; simp; omega
  · rw [insL, if_neg c1]
    by_cases c2 : a ≤ b
    · rw [insL, if_pos c2, insL]
      split
      · simp; omega
      · simp; omega
    · rw [insL, if_neg c2]; simp; omega
