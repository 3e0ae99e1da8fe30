/-! Is every block as it was planned: place by place -/
def WH (D pp qq : Nat → Nat) (k i : Nat) : Prop := (∀ k', k' < k → ∀ i', i' < 32 → D (32 * pp k' + i') = qq (32 * k' + i')) ∧ ∀ i', i' < i → D (32 * pp k + i') = qq (32 * k + i')
theorem WH_s {D pp qq : Nat → Nat} {k i : Nat} (h : D (32 * pp k + i) = qq (32 * k + i)) : cD (WH D pp qq k i) = cD (WH D pp qq k (i + 1)) := by
  apply cD_eq
  unfold WH
  refine ⟨fun q => ⟨q.1, fun i' hi => ?_⟩, fun q => ⟨q.1, fun i' hi => q.2 i' (by omega)⟩⟩
  by_cases hj : i' = i
  · rw [hj]; exact h
  · exact q.2 i' (by omega)
theorem WH_f {D pp qq : Nat → Nat} {k i : Nat} (h : D (32 * pp k + i) ≠ qq (32 * k + i)) : cD (WH D pp qq k (i + 1)) = false := cD_f (fun q => h (q.2 i (by omega)))
theorem WH_n (D pp qq : Nat → Nat) (k : Nat) : cD (WH D pp qq k 32) = cD (WH D pp qq (k + 1) 0) := by
  apply cD_eq
  unfold WH
  refine ⟨fun q => ⟨fun k' hk => ?_, fun i' hi => absurd hi (by omega)⟩, fun q => ⟨fun k' hk => q.1 k' (by omega), fun i' hi => q.1 k (by omega) i' hi⟩⟩
  by_cases hj : k' = k
  · rw [hj]; exact q.2
  · exact q.1 k' (by omega)
theorem WH_0 (D pp qq : Nat → Nat) : cD (WH D pp qq 0 0) = true := cD_t ⟨fun k' hk => absurd hk (by omega), fun i' hi => absurd hi (by omega)⟩
theorem WH_e (D pp qq : Nat → Nat) (pn : Nat) : cD (WH D pp qq pn 0) = whN D pp qq pn := cD_eq ⟨fun q => q.1, fun q => ⟨q, fun i' hi => absurd hi (by omega)⟩⟩
