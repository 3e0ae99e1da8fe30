/-! The law: what stands at every turn -/
theorem kX_refl (s : State) : kX s s := ⟨State.WarmedH.refl s, Nat.le_refl _, fun _ _ => rfl⟩
def xIAE : String := "java/lang/IllegalArgumentException"
/-- what the start says of every place that throws, and of the catches -/
def XF (A0 : Array Value) (s0 : State) : Prop :=
  (∀ il, il ∈ [76, 97, 134, 189] → xSite A0 s0 "BlockLog" "java/lang/IllegalArgumentException" NM3 74 il 78) ∧ (∀ il, il ∈ [87, 103, 122, 136] → xSite A0 s0 "BlockLog" "java/lang/UnsupportedOperationException" NM3 85 il 89) ∧
  xSite A0 s0 "BlockLog" "java/lang/IndexOutOfBoundsException" NM3 144 146 148 ∧ xSite A0 s0 "BlockLog" "java/util/NoSuchElementException" NM3 156 158 160 ∧
  ((Cond.castable "java/lang/IllegalArgumentException" "java/lang/IllegalArgumentException").before A0 s0 = true ∧ (Cond.castable "java/lang/UnsupportedOperationException" "java/lang/UnsupportedOperationException").before A0 s0 = true ∧ (Cond.castable "java/lang/IndexOutOfBoundsException" "java/lang/IndexOutOfBoundsException").before A0 s0 = true ∧ (Cond.castable "java/util/NoSuchElementException" "java/util/NoSuchElementException").before A0 s0 = true) ∧
  xNot s0 "java/lang/UnsupportedOperationException" "java/lang/IllegalArgumentException" ∧ xNot s0 "java/util/NoSuchElementException" "java/lang/IllegalArgumentException"
def LawCtx (p : Program) (l : Launch) (s : State) (m : MethodId) (c : Code) (b L : Nat) (xs : Nat → Int32) (dC : Nat → ClassId) (dI : Nat → Nat → Nat) (cI cL : ClassId) : Prop :=
  CallFix p m c code 7 s #[Value.ref b] U_ "BlockLogLaw" ∧ va_K (dC, dI) CL_ [(cI, .int), (cL, .long)] s ∧ kN s ∧ va_X b L xs s s.heap ∧ b < s.heap.size ∧ L ≤ 1536 ∧ l.stackTraces = false ∧ XF #[Value.ref b] s
theorem k_hws {args : Array Value} {s : State} {y : MethodName} {bytes : ByteArray} {maxL : Nat} {ret : Option FieldType} {hh : List (Nat × Nat × Nat × Nat)} (hts : ∀ w ∈ U_, w.before args s = true) (h : Cond.codeWith y bytes maxL ret hh ∈ U_) : ∀ w ∈ (Cond.codeWith y bytes maxL ret hh :: U_), ∀ (a' : Array Value) (U : State), s.WarmedH U.vm → w.before a' U = true := fun w hw a' U hW => by
  have hw2 : w ∈ U_ := by
    rcases List.mem_cons.mp hw with rfl | hw
    · exact h
    · exact hw
  exact word_at hW (U_good w hw2) (hts w hw2)
section LR
variable {p : Program} {l : Launch} {e : Env} {R : Room} {s : State} {m : MethodId} {args : Array Value} {below : List Frame} {meth : Method} {c : Code} {H : Heap} {locs : List Loc} {cells slots : Nat} {Q : State → Prop}
variable {cc : ByteArray} {pc : Nat} {ls : Array Slot} {rest : List Value} {A : Nat → Prop} {H0 : Heap}
theorem n_sld (hexec : p.tables.exec = Jvm.exec) (hb : c.code = cc) {b L : Nat} {xs : Nat → Int32} (hX : va_X b L xs s H0) (hbl : b < H0.size) (hbA : ¬ A b) (hS : va_S A H0 H locs) {j : Nat} (hj : j < L) (hL : L < 2 ^ 31) (hdg : decode cc pc = .ok (.iaload, 1))
    (kk : W p l e R s m args below meth c H locs cells slots Q (F0 m (pc + 1) ls (.int (xs j) :: rest))) : W p l e R s m args below meth c H locs cells slots Q (F0 m pc ls (.int (nI j) :: .ref b :: rest)) := by
  refine va_sld hexec hb hX hbl hbA hS (vp_in_nI hj hL) hdg ?_
  rw [nI_clamp (Nat.lt_trans hj hL)]
  exact kk
theorem cmp_self (x : Int64) : lg_cmp x x = 0 := by
  unfold lg_cmp
  simp
theorem n_lcmp (hexec : p.tables.exec = Jvm.exec) (hb : c.code = cc) {x : Int64} (hdg : decode cc pc = .ok (.lcmp, 1))
    (k : W p l e R s m args below meth c H locs cells slots Q (F0 m (pc + 1) ls (.int (nI 0) :: rest))) : W p l e R s m args below meth c H locs cells slots Q (F0 m pc ls (.long x :: .long x :: rest)) :=
  W.lcmp hexec hb hdg (by rw [cmp_self]; exact k)
end LR
