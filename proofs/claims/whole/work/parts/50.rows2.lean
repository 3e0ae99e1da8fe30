/-! Rows that the reference asks for -/
theorem oI_neg {x : Option Nat} (h : oSm x) : oI x < 0 ↔ x = none := by
  cases x with
  | none => exact ⟨fun _ => rfl, fun _ => by decide⟩
  | some n => exact ⟨fun q => absurd q (nI_pos (h n rfl)), fun q => by cases q⟩
theorem oI_some {x : Option Nat} {k : Nat} (hk : k < 2 ^ 31) (h : oSm x) : nI k = oI x ↔ x = some k := by
  cases x with
  | none =>
    refine ⟨fun q => ?_, fun q => by cases q⟩
    have h1 : oI none < 0 := by decide
    rw [← q] at h1
    exact absurd h1 (nI_pos hk)
  | some n =>
    refine ⟨fun q => ?_, fun q => by cases q; rfl⟩
    exact congrArg some ((nI_eq hk (h n rfl)).mp q).symm
section XR2
variable {p : Program} {l : Launch} {e : Env} {R : Room} {s : State} {m : MethodId} {args : Array Value} {below : List Frame} {meth : Method} {c : Code} {H : Heap} {locs : List Loc} {cells slots : Nat} {Q : State → Prop}
variable {cc : ByteArray} {pc : Nat} {ls : Array Slot} {rest : List Value}
theorem n_if_ltO (hexec : p.tables.exec = Jvm.exec) (hb : c.code = cc) {a : Option Nat} {off : Int} {tgt : Nat} (hdg : decode cc pc = .ok (.ifCond .lt off, 3)) (ht : (pc : Int) + off = (tgt : Int)) (h1 : oSm a) (kt : a = none → W p l e R s m args below meth c H locs cells slots Q (F0 m tgt ls rest)) (kf : a ≠ none → W p l e R s m args below meth c H locs cells slots Q (F0 m (pc + 3) ls rest)) : W p l e R s m args below meth c H locs cells slots Q (F0 m pc ls (.int (oI a) :: rest)) :=
  lv_if_lt hexec hb hdg ht (fun h => kt ((oI_neg h1).mp h)) (fun h => kf (fun q => h ((oI_neg h1).mpr q)))
theorem n_icmp_neNO (hexec : p.tables.exec = Jvm.exec) (hb : c.code = cc) {k : Nat} {a : Option Nat} {off : Int} {tgt : Nat} (hdg : decode cc pc = .ok (.if_icmp .ne off, 3)) (ht : (pc : Int) + off = (tgt : Int)) (h0 : k < 2 ^ 31) (h1 : oSm a) (kt : a ≠ some k → W p l e R s m args below meth c H locs cells slots Q (F0 m tgt ls rest)) (kf : a = some k → W p l e R s m args below meth c H locs cells slots Q (F0 m (pc + 3) ls rest)) : W p l e R s m args below meth c H locs cells slots Q (F0 m pc ls (.int (oI a) :: .int (nI k) :: rest)) :=
  lv_icmp_ne hexec hb hdg ht (fun h => kt (fun q => h ((oI_some h0 h1).mpr q))) (fun h => kf ((oI_some h0 h1).mp h))
theorem n_ishr8 (hexec : p.tables.exec = Jvm.exec) (hb : c.code = cc) {a : Nat} (hdg : decode cc pc = .ok (.ishr, 1)) (h : a < 2 ^ 31) (k : W p l e R s m args below meth c H locs cells slots Q (F0 m (pc + 1) ls (.int (nI (a / 256)) :: rest))) : W p l e R s m args below meth c H locs cells slots Q (F0 m pc ls (.int (nI 8) :: .int (nI a) :: rest)) :=
  lv_ishr hexec hb hdg (by rw [pk_shrN h (nI 8 &&& 31) 8 (by decide)]; exact k)
end XR2
theorem shA (v : Int32) {i : Nat} (hi : i < 4) : (v >>> (nI (8 * i) &&& 31)).toBitVec.toNat % 256 = v.toBitVec.toNat / 2 ^ (8 * i) % 256 := by
  have key : ∀ k : Nat, (k = 0 ∨ k = 8 ∨ k = 16 ∨ k = 24) → ∀ w : Int32, w.toInt = v.toInt >>> k → w.toBitVec.toNat % 256 = v.toBitVec.toNat / 2 ^ k % 256 := by
    intro k hk w hw
    have h1 : v.toInt = v.toBitVec.toInt := rfl
    have h2 : w.toInt = w.toBitVec.toInt := rfl
    rw [h1, h2, Int.shiftRight_eq_div_pow, BitVec.toInt_eq_toNat_cond, BitVec.toInt_eq_toNat_cond] at hw
    have hv := v.toBitVec.isLt
    have hw2 := w.toBitVec.isLt
    rcases hk with rfl | rfl | rfl | rfl <;> (split at hw <;> split at hw <;> (try simp only [Nat.reducePow] at hw ⊢) <;> omega)
  rcases (show i = 0 ∨ i = 1 ∨ i = 2 ∨ i = 3 by omega) with rfl | rfl | rfl | rfl
  · exact key 0 (Or.inl rfl) _ (pk_shr v (nI (8 * 0) &&& 31) 0 (by decide))
  · exact key 8 (Or.inr (Or.inl rfl)) _ (pk_shr v (nI (8 * 1) &&& 31) 8 (by decide))
  · exact key 16 (Or.inr (Or.inr (Or.inl rfl))) _ (pk_shr v (nI (8 * 2) &&& 31) 16 (by decide))
  · exact key 24 (Or.inr (Or.inr (Or.inr rfl))) _ (pk_shr v (nI (8 * 3) &&& 31) 24 (by decide))
