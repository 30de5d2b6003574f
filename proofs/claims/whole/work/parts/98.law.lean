theorem law_ok : lawOK := by
  sorry
