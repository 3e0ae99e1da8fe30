/-! What is carried from the law's start: its tables, and the cells that were there -/
def kX (s0 U : State) : Prop := s0.WarmedH U.vm ∧ s0.heap.size ≤ U.heap.size ∧ ∀ q : Nat, q < s0.heap.size → U.heap[q]? = s0.heap[q]?
theorem kX_tab {s0 U : State} {A0 A : Array Value} {w : Cond} (h1 : w.onTables = true) (h2 : w.keepsFace = true) (hX : kX s0 U) (h : w.before A0 s0 = true) : w.before A U = true :=
  va_tabs h1 (rfl : (s0.setVm U.vm).vm = U.vm) (Cond.before_shiftedFace (State.Shifted.of_warmed hX.1) w h2 h)
theorem kX_heap {s0 U : State} (hX : kX s0 U) {q : Nat} {cell : Cell} (h : s0.heap[q]? = some cell) : U.heap[q]? = some cell := by
  rw [hX.2.2 q (Array.getElem?_eq_some_iff.mp h).1]
  exact h
theorem kX_lays {o n d : String} {s0 U : State} {A0 A : Array Value} (hX : kX s0 U) (h : (Cond.laysStatic o n d).before A0 s0 = true) : (Cond.laysStatic o n d).before A U = true := by
  have h1 : (Cond.laysStatic o n d).before A0 (s0.setVm U.vm) = true := Cond.before_shiftedFace (State.Shifted.of_warmed hX.1) _ rfl h
  have hf : (s0.setVm U.vm).fieldFound? o n d = U.fieldFound? o n d := rfl
  have hv : (s0.setVm U.vm).vm = U.vm := rfl
  have hh : (s0.setVm U.vm).heap = s0.heap := rfl
  simp only [Cond.before, Cond.holds, Cond.value, hf, hv, hh] at h1 ⊢
  cases hc : U.vm.findClass o with
  | none => simp [hc] at h1
  | some c =>
    cases hg : U.fieldFound? o n d with
    | none => simp [hc, hg] at h1
    | some x =>
      obtain ⟨c', k, i, f⟩ := x
      simp only [hc, hg] at h1 ⊢
      cases hk : k.statics with
      | none => simp [hk] at h1
      | some a =>
        cases hq : s0.heap[a]? with
        | none => simp [hk, hq] at h1
        | some cell =>
          simp only [hk, hq, kX_heap hX hq, Option.bind_some] at h1 ⊢
          exact h1
theorem kX_stat {o n d : String} {s0 U : State} {A0 A : Array Value} (hX : kX s0 U) (h : (Cond.isRef (.static o n d)).before A0 s0 = true) : (Cond.isRef (.static o n d)).before A U = true := by
  have h1 : (Cond.isRef (.static o n d)).before A0 (s0.setVm U.vm) = true := Cond.before_shiftedFace (State.Shifted.of_warmed hX.1) _ rfl h
  have hf : (s0.setVm U.vm).fieldNamed? o n d true = U.fieldNamed? o n d true := rfl
  have hh : (s0.setVm U.vm).heap = s0.heap := rfl
  simp only [Cond.before, Cond.holds, Cond.value, Term.eval, hf, hh] at h1 ⊢
  cases hg : U.fieldNamed? o n d true with
  | none => simp [hg] at h1
  | some x =>
    obtain ⟨c', k, sl⟩ := x
    simp only [hg] at h1 ⊢
    cases hk : k.statics with
    | none => simp [hk] at h1
    | some a =>
      cases hq : s0.heap[a]? with
      | none => simp [hk, hq] at h1
      | some cell =>
        have hu := kX_heap hX hq
        simp [hk, hq] at h1
        simp [hk, hu]
        exact h1
/-- which words are carried -/
def xWord : Cond → Bool
  | .laysStatic _ _ _ => true
  | .isRef (.static _ _ _) => true
  | w => w.onTables && w.keepsFace
theorem kX_word {s0 U : State} {A0 A : Array Value} {w : Cond} (hw : xWord w = true) (hX : kX s0 U) (h : w.before A0 s0 = true) : w.before A U = true := by
  unfold xWord at hw
  split at hw
  · exact kX_lays hX h
  · exact kX_stat hX h
  · simp only [Bool.and_eq_true] at hw
    exact kX_tab hw.1 hw.2 hX h
theorem kX_warm {s0 s U : State} (hX : kX s0 s) (hW : s.WarmedH U.vm) (hz : s0.heap.size ≤ U.heap.size) (hh : ∀ q : Nat, q < s0.heap.size → U.heap[q]? = s.heap[q]?) : kX s0 U :=
  ⟨State.WarmedH.trans hX.1 hW, hz, fun q hq => (hh q hq).trans (hX.2.2 q hq)⟩
/-- behind a method that threw: the exception's own cell, its class's name; the cells -/
def xO (X : String) (a : Addr) (t : State) : Prop := ∃ ce : Cell, t.heap[a]? = some ce ∧ ce.vm = .none ∧ t.vm.findClass X = some ce.cls
def kQx (D : va_G) (cl : List vw_C) (tys : List (ClassId × FieldType)) (A : Nat → Prop) (ws' : va_W) (X : String) : Array Value → State → Outcome → State → Prop := fun _ st oc t => (∃ a : Addr, oc = .threw a ∧ xO X a t ∧ kOut D cl tys A ws' t) ∧ va_F A st t
abbrev kInX (D : va_G) (cl : List vw_C) (tys : List (ClassId × FieldType)) (ws : va_W) (sz : Nat) (s0 U : State) : Prop := U.heap.size = sz ∧ va_P D cl ws U.heap ∧ va_K D cl tys U ∧ va_D (fun _ => True) ws ∧ kN U ∧ kX s0 U
theorem kInX_blind {D : va_G} {cl : List vw_C} {tys : List (ClassId × FieldType)} {ws : va_W} {sz : Nat} {s0 : State} {av : List Value} : FrameBlind (va_Pc av (kInX D cl tys ws sz s0)) := fun a U g mk q => by
  obtain ⟨q0, q1, qP, qK, qD, qN, qX⟩ := q
  exact ⟨q0, q1, qP, va_K.moved (u := U) (U := U.calling g mk a) (Vm.Alike.refl U.vm) qK, qD, kN_same (u := U) (U := U.calling g mk a) rfl qN, qX⟩
/-- a cell of the world is no cell of statics -/
theorem x_noSt {D : va_G} {cl : List vw_C} {ws : va_W} {H : Heap} (hP : va_P D cl ws H) {k : Nat} {q : Nat × va_E} (hk : ws[k]? = some q) {cell : Cell} (hc : H[q.1]? = some cell) : cell.vm.isStatics = false := by
  have h := hP k q hk
  obtain ⟨a, e⟩ := q
  cases e with
  | inl x =>
    have h : H[a]? = some (vp_cell x.1 x.2) := h
    cases hc.symm.trans h
    obtain ⟨cA, n, f⟩ := x
    rcases f with f | f | f | f | f <;> rfl
  | inr o =>
    obtain ⟨r, -, ce, g1, g2, g3, -⟩ := h
    cases hc.symm.trans g1
    rw [g3]
    rfl
section XT2
variable {p : Program} {l : Launch} {e : Env} {R : Room} {s : State} {m : MethodId} {args : Array Value} {below : List Frame} {meth : Method} {c : Code} {H : Heap} {locs : List Loc} {cells slots : Nat} {Q : State → Prop}
variable {cc : ByteArray} {pc : Nat} {ls : Array Slot} {D : va_G} {cl : List vw_C} {A : Nat → Prop} {tys : List (ClassId × FieldType)} {ws ws' : va_W}
/-- throw new X(".."), to the end -/
theorem x_thrown (hexec : p.tables.exec = Jvm.exec) (hb : c.code = cc) (hl : l.stackTraces = false) {own X tx : String} {names : List String} {ix il ic sa jx : Nat} {rx : ByteArray} (x0 : decode rx 0 = .ok (.aload_n 0, 1)) (x1 : decode rx 1 = .ok (.aload_n 1, 1)) (x2 : decode rx 2 = .ok (.invokespecial jx, 3)) (x5 : decode rx 5 = .ok (.return_, 1)) (hown : s.vm.findClass own = some m.cls) (hml : ls.size = c.maxLocals)
    (hcl : (Cond.classLink own ix X).before args s = true) (hini : (Cond.initialized X).before args s = true) (hat : ∀ a ∈ xOwn own ic X jx rx names, a.before args s = true) (hfit : Bundle.fit X = true) (hfits : ∀ n ∈ names, Bundle.fit n = true) (hstr : vk_R own il tx sa s)
    (hd0 : decode cc pc = .ok (.new ix, 3)) (hd3 : decode cc (pc + 3) = .ok (.dup, 1)) (hd4 : decode cc (pc + 3 + 1) = .ok (.ldc il, 2)) (hd6 : decode cc (pc + 3 + 1 + 2) = .ok (.invokespecial ic, 3)) (hd9 : decode cc (pc + 3 + 1 + 2 + 3) = .ok (.athrow, 1))
    (hout : ∀ x ∈ c.exceptionTable.toList, covers x (pc + 3 + 1 + 2 + 3) = false) (hlocks : meth.locks = false)
    (hK : va_K D cl tys s) (hP : va_P D cl ws' H) (hD : va_D A ws') (hS : va_S A s.heap H locs) (hA : ∀ q, s.heap.size ≤ q → A q) (hloc : ∀ q, A q → ∀ cell, s.heap[q]? = some cell → cell.vm.isStatics = false)
    (hR : names.length + 3 < R.frames ∧ 13 * (names.length + 1) + 51 ≤ R.locals) (hcs : cells + 1 ≤ R.cells ∧ slots + 6 ≤ R.slots) :
    W p l e R s m args below meth c H locs cells slots (XQ below (kQx D cl tys A ws' X) args s (cells + 1) (slots + 6) A) (F0 m pc ls []) := by
  have hinst : (Cond.instantiable X 6).before args s = true := hat _ (xOwn_t (by simp [xTail]))
  obtain ⟨cX, kX', hfX, hkX, -⟩ := Cond.instantiable_spec hinst
  refine W.newcK hexec hb hown hcl hinst hini rfl hd0 hcs.1 hcs.2 hfX rfl fun H1 kC hkC e1 z1 o1 => ?_
  refine lv_dup hexec hb hd3 rfl ?_
  refine va_ldcS hexec hb hown hstr hd4 ?_
  intro T hT U
  have htr : e.platform.stackTraces = false := by rw [U.admits.platform]; exact hl
  obtain ⟨vm', ce, L, U', hL, hce1, hce2, st⟩ := x_ctor U hexec htr (a := H.size) (g := F0 m (pc + 3 + 1 + 2) ls [.ref sa, .ref H.size, .ref H.size]) (rest := []) x0 x1 x2 x5 hown hfit hfits hat
    (fun x hx cell hc => hloc _ (hS.2.2 x hx) cell hc) hfX hkC (by rw [hT]; exact e1) (hS.1) (msg := .ref sa) rfl rfl hml rfl (by rw [hb]; exact hd6) hR.1 (by show 2 * 0 + 1 + _ ≤ _; omega)
  have hz : H.size < H1.size := by omega
  have h2 : ∀ q, q < H.size → ((T.setVm vm').setCell H.size ce).heap[q]? = H[q]? := fun q hq => by
    rw [← o1 q hq, ← hT]
    exact heapAt_setCell_ne (s := T.setVm vm') ce (Nat.ne_of_gt hq)
  have h3 : ((T.setVm vm').setCell H.size ce).heap[H.size]? = some ce := heapAt_setCell_self (s := T.setVm vm') ce (by show H.size < T.heap.size; rw [hT]; exact hz)
  have hk : ∀ (k : Nat) (x : Nat × va_E), ws'[k]? = some x → ((T.setVm vm').setCell H.size ce).heap[x.1]? = H[x.1]? := fun k x hx => h2 x.1 ((hP k x hx).lt)
  have hsz : H.size ≤ ((T.setVm vm').setCell H.size ce).heap.size := Nat.le_of_lt (Array.getElem?_eq_some_iff.mp h3).1
  have hS2 : va_S A s.heap ((T.setVm vm').setCell H.size ce).heap (locs ++ L) := ⟨Nat.le_trans hS.1 hsz, fun q h1 h9 => (h2 q (Nat.lt_of_lt_of_le h1 hS.1)).trans (hS.2.1 q h1 h9), fun x hx => by
    rcases List.mem_append.mp hx with hx | hx
    · exact hS.2.2 x hx
    · rw [hL x hx]; exact hA _ hS.1⟩
  have hw := x_athrow (l := l) (e := e) (R := R) (below := below) (H := ((T.setVm vm').setCell H.size ce).heap) (locs := locs ++ L) (cells := cells + 1) (slots := slots + 6) (rest := []) (ls := ls) (Qc := kQx D cl tys A ws' X) (free := A) (s := s) (args := args) (m := m) (meth := meth) hexec hb (a := H.size) hd9 hout hlocks
    (fun t ht hW => ⟨⟨H.size, rfl, ⟨ce, by rw [ht]; exact h3, hce2, by rw [hce1, hW.alike.findClass]; exact hfX⟩, by rw [ht]; exact hP.kept hk, va_K.moved hW.alike hK, hD⟩, hS2.F ht⟩) hS2.2.2
  obtain ⟨t, a1, b1⟩ := hw _ rfl U'
  exact ⟨t, st t a1, b1⟩
end XT2
