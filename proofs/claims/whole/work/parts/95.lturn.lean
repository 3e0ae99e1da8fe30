/-! One turn of the law -/
theorem i32_up {n : Nat} (hn : n + 1 < 2 ^ 31) {x : Int32} (h : nI (n + 1) ≤ x) : nI n < x := by
  rw [Int32.le_iff_toInt_le, nI_toInt hn] at h
  rw [Int32.lt_iff_toInt_lt, nI_toInt (by omega)]
  omega
theorem i32_nat {y : Int32} (h : ¬ y < 0) : ∃ j : Nat, j < 2 ^ 31 ∧ y = nI j := by
  have h1 : ¬ y.toInt < 0 := fun q => h (by rw [Int32.lt_iff_toInt_lt]; exact q)
  have h2 := Int32.toInt_lt y
  have h3 : y.toInt.toNat < 2 ^ 31 := by omega
  refine ⟨y.toInt.toNat, h3, ?_⟩
  apply Int32.toInt_inj.mp
  rw [nI_toInt h3]
  omega
theorem i32_lt1 {x : Int32} (h : x < 0) : x < nI 1 := Int32.lt_of_lt_of_le h (by decide)
