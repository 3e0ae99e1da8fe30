abbrev NM3 : List String := ["java/lang/RuntimeException", "java/lang/Exception"]
theorem i32_gap {n : Nat} (hn : n + 1 < 2 ^ 31) {x : Int32} (h : nI n < x) : nI (n + 1) ≤ x := by
  rw [Int32.lt_iff_toInt_lt, nI_toInt (by omega)] at h
  rw [Int32.le_iff_toInt_le, nI_toInt hn]
  omega
theorem i32_out {n : Nat} (hn : n < 2 ^ 31) {x : Int32} (h : x < 0 ∨ nI n < x) : x.toInt < 0 ∨ (n : Int) < x.toInt := by
  rw [Int32.lt_iff_toInt_lt, Int32.lt_iff_toInt_lt, nI_toInt hn] at h
  exact h
