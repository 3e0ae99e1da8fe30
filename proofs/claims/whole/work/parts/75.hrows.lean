/-! The law's own methods: each holds one call of the class, and its catch -/
abbrev kInH (D : va_G) (cl : List vw_C) (tys : List (ClassId × FieldType)) (ws : va_W) (sz : Nat) (s0 U : State) : Prop := kInX D cl tys ws sz s0 U ∧ va_D (fun q => s0.heap.size ≤ q) ws
theorem kInH_blind {D : va_G} {cl : List vw_C} {tys : List (ClassId × FieldType)} {ws : va_W} {sz : Nat} {s0 : State} {av : List Value} : FrameBlind (va_Pc av (kInH D cl tys ws sz s0)) := fun a U g mk q => by
  obtain ⟨q0, q1, q2⟩ := q
  exact ⟨q0, (kInX_blind (av := av) a U g mk ⟨q0, q1⟩).2, q2⟩
abbrev KH (l : Launch) (y : MethodName) (w : List Cond) (rm : Room) (D : va_G) (cl : List vw_C) (tys : List (ClassId × FieldType)) (sz : Nat) (av : List Value) (ws ws' : va_W) (r : Int32) (s0 : State) (mc ms : Nat) : Prop := Met l y w rm (va_Pc av (kInH D cl tys ws sz s0)) (kQi D cl tys sz ws ws' r) mc ms (va_A ws sz)
/-- which class is none of another's -/
def xNot (s0 : State) (X Y : String) : Prop := ∀ c1 c2, s0.vm.findClass X = some c1 → s0.vm.findClass Y = some c2 → s0.vm.assignable c1 c2 = false
theorem xNot_s {s0 s : State} {X Y : String} (hX : kX s0 s) (h : xNot s0 X Y) : ∀ c1 c2, s.vm.findClass X = some c1 → s.vm.findClass Y = some c2 → s.vm.assignable c1 c2 = false := fun c1 c2 h1 h2 => by
  rw [hX.1.alike.findClass] at h1 h2
  rw [hX.1.alike.assignable]
  exact h c1 c2 h1 h2
theorem x_tab {l : List ExceptionTableEntry} {hh : List (Nat × Nat × Nat × Nat)} (h : l.map (fun h => (h.startPc, h.endPc, h.handlerPc, h.catchType)) = hh) : l = hh.map (fun q => (⟨q.1, q.2.1, q.2.2.1, q.2.2.2⟩ : ExceptionTableEntry)) := by
  rw [← h, List.map_map]
  exact (List.map_id' l).symm
section KHS
variable {l : Launch} {y : MethodName} {rm : Room} {D : va_G} {cl : List vw_C} {tys : List (ClassId × FieldType)} {sz : Nat} {av : List Value} {ws ws' : va_W} {cc : ByteArray} {maxL : Nat}
theorem k_start_h {r : Int32} {hh : List (Nat × Nat × Nat × Nat)} {s0 : State} {mc ms : Nat} (hy : plainName y.cls = true) (hlen : (lg_sl av).length ≤ maxL)
    (body : ∀ (p : Program) (e : Env) (s : State) (m : MethodId) (args : Array Value) (below : List Frame) (meth : Method) (c : Code) (A : Nat → Prop) (QQ : State → Prop) (ls : Array Slot), CallFix p m c cc maxL s args U_ y.cls → va_K D cl tys s → va_P D cl ws s.heap → va_D A ws → (∀ q, s.heap.size ≤ q → A q) → lv_has ls maxL (lv_args 0 av) → kN s → kX s0 s → (∀ q, A q → s0.heap.size ≤ q) →
      c.exceptionTable.toList = hh.map (fun q => (⟨q.1, q.2.1, q.2.2.1, q.2.2.2⟩ : ExceptionTableEntry)) →
      (∀ (v : Int32) (H : Heap) (locs : List Loc) (pc : Nat) (ls : Array Slot), decode cc pc = .ok (.ireturn, 1) → va_P D cl ws' H → va_D A ws' → va_S A s.heap H locs → v = r → W p l e rm s m args below meth c H locs mc ms QQ (F0 m pc ls [.int v])) →
      W p l e rm s m args below meth c s.heap [] 0 0 QQ (F0 m 0 ls [])) : KH l y (Cond.codeWith y cc maxL (some .int) hh :: U_) rm D cl tys sz av ws ws' r s0 mc ms := by
  refine va_MetW (cc := cc) (maxL := maxL) (ret := some .int) (hh := hh) hy rfl ?_
  intro p e s m args below meth c s₁ B hml hv
  obtain ⟨ha, ⟨hsz, hP, hK, hD0, hN, hX⟩, hD1⟩ := hv
  subst ha
  subst hsz
  have hl := lv_entry av (n := maxL) hlen
  rw [lg_entry_eq]
  have hts := atoms_spec (ws := Cond.codeWith y cc maxL (some .int) hh :: U_) B.pre
  have htab : c.exceptionTable.toList.map (fun h => (h.startPc, h.endPc, h.handlerPc, h.catchType)) = hh := by
    obtain ⟨m', meth', c', h0, h1, h2, -, -, h5, -⟩ := Cond.codeWith_spec (hts _ List.mem_cons_self)
    cases h0.symm.trans B.named
    cases h1.symm.trans B.method
    have hc : meth.code = some c := (Stand.of_body B).code
    cases h2.symm.trans hc
    exact h5
  refine body p e s m _ below meth c (va_A ws s.heap.size) _ _ ⟨B.exec, B.bytes, hml, findClass_of_methodNamed B.named, fun w h => hts w (List.mem_cons_of_mem _ h)⟩ hK hP hD0.self (fun q h => Or.inr h) hl hN hX ?_ (x_tab htab) ?_
  · intro q hq
    rcases hq with ⟨k, ee, hk⟩ | hq
    · exact hD1.2 k _ hk
    · exact Nat.le_trans hX.2.1 hq
  · intro v H locs pc ls hd hP9 hD9 hS hv
    subst hv
    exact W.iret (v := v) B.exec B.bytes B.returns (fun t ht hW => ⟨⟨v, (), rfl, rfl, by rw [ht]; exact hP9, va_K.moved hW.alike hK, hD9⟩, hS.F ht⟩) hS.2.2 hd B.notSynchronized
end KHS
section KHR
variable {p : Program} {l : Launch} {e : Env} {R : Room} {s : State} {m : MethodId} {args : Array Value} {below : List Frame} {meth : Method} {c : Code} {H : Heap} {locs : List Loc} {cells slots : Nat} {Q : State → Prop}
variable {cc : ByteArray} {pc : Nat} {ls : Array Slot} {rest st0 : List Value} {D : va_G} {cl : List vw_C} {A : Nat → Prop} {a : Nat} {tys tysC : List (ClassId × FieldType)} {ws wc wr w1 : va_W} {H0 : Heap}
theorem n_last (hexec : p.tables.exec = Jvm.exec) (hb : c.code = cc) (hK : va_K D cl tys s) (hP : va_P D cl ws H) (hD : va_D A ws) (hS : va_S A H0 H locs) (q0 t0 : Nat) {cA : ClassId} {n : Nat} {f : Nat → Int64} (ha : ws[q0]? = some (a, .inl (cA, n, .inr (.inl f)))) (ht : tys[t0]? = some (cA, .long)) {j : Nat} {x : Int64} (hj : j < n) (hn : n < 2 ^ 31) (hdg : decode cc pc = .ok (.lastore, 1))
    (kk : ∀ (H1 : Heap) (locs1 : List Loc), va_P D cl (ws.set q0 (a, .inl (cA, n, .inr (.inl (vp_updL f j x))))) H1 → va_D A (ws.set q0 (a, .inl (cA, n, .inr (.inl (vp_updL f j x))))) → va_S A H0 H1 locs1 → W p l e R s m args below meth c H1 locs1 cells slots Q (F0 m (pc + 1) ls rest)) : W p l e R s m args below meth c H locs cells slots Q (F0 m pc ls (.long x :: .int (nI j) :: .ref a :: rest)) := by
  refine va_last hexec hb hK hP hD hS q0 t0 ha ht (vp_in_nI hj hn) hdg ?_
  rw [nI_clamp (Nat.lt_trans hj hn)]
  exact kk
theorem n_lald (hexec : p.tables.exec = Jvm.exec) (hb : c.code = cc) (hK : va_K D cl tys s) (hP : va_P D cl ws H) (q0 t0 : Nat) {cA : ClassId} {n : Nat} {f : Nat → Int64} (ha : ws[q0]? = some (a, .inl (cA, n, .inr (.inl f)))) (ht : tys[t0]? = some (cA, .long)) {j : Nat} {v : Int64} (hv : f j = v) (hj : j < n) (hn : n < 2 ^ 31) (hdg : decode cc pc = .ok (.laload, 1))
    (kk : W p l e R s m args below meth c H locs cells slots Q (F0 m (pc + 1) ls (.long v :: rest))) : W p l e R s m args below meth c H locs cells slots Q (F0 m pc ls (.int (nI j) :: .ref a :: rest)) := by
  subst hv
  refine va_lald hexec hb hK hP q0 t0 ha ht (vp_in_nI hj hn) hdg ?_
  rw [nI_clamp (Nat.lt_trans hj hn)]
  exact kk
/-- a call that may use cells -/
theorem kj_im {r : Int32} {av : Array Value} {mc ms : Nat} (hr : va_Run p l e R s m args below meth c H locs cells slots mc ms (F0 m pc ls st0) rest (kQi D cl tysC H.size wc w1 r av) (va_A wc H.size))
    (hP : va_P D cl ws H) (hD : va_D A ws) (hS : va_S A H0 H locs) (hA : ∀ q, H0.size ≤ q → A q) (isC isR : List Nat) (hC : isC.map (fun i => ws[i]?) = wc.map some) (hR : isR.map (fun i => ws[i]?) = wr.map some) (hnR : va_nd isR = true) (hdis : ∀ i ∈ isR, i ∉ isC)
    (kk : ∀ (H1 : Heap) (locs1 : List Loc), va_P D cl (wr ++ w1) H1 → va_D A (wr ++ w1) → va_S A H0 H1 locs1 → W p l e R s m args below meth c H1 locs1 (cells + mc) (slots + ms) Q (F0 m (pc + 3) ls (.int r :: rest))) : W p l e R s m args below meth c H locs cells slots Q (F0 m pc ls st0) := by
  have hFc := va_free (wc := wc) hD hS hA isC hC
  refine va_calli hr hS (fun q _ h => hFc q h) hFc (fun r' u t H1 locs1 ht hvm hw hB hz1 hk1 hS1 => ?_)
  obtain ⟨hP1, hK1, hD1⟩ := hB
  rw [ht] at hP1
  subst hw
  obtain ⟨hP2, hD2⟩ := va_join hP hD isC isR hC hR hnR hdis hk1 hFc hP1 hD1
  exact kk H1 locs1 hP2 hD2 hS1
theorem kp_H {As : List Value} {s0 : State} (hN : kN s) (hX : kX s0 s) (hK : va_K D cl tys s) (isK : List Nat) (hKs : isK.filterMap (fun i => tys[i]?) = tysC) (hP : va_P D cl ws H) (hD : va_D A ws) (hS : va_S A s.heap H locs) (hAs : ∀ q, A q → s0.heap.size ≤ q) (isC : List Nat) (hC : isC.map (fun i => ws[i]?) = wc.map some) (hnC : va_nd isC = true) :
    PreS s H (va_Pc As (kInH D cl tysC wc H.size s0)) As := by
  have hPc : va_P D cl wc H := hP.sub isC (map_fm hC)
  have hDc := hD.sub isC hnC hC
  have hKc : va_K D cl tysC s := hK.sub isK hKs
  exact ⟨kInH_blind, fun U hU hW => ⟨rfl, ⟨by rw [hU], by rw [hU]; exact hPc, va_K.moved hW.alike hKc, hDc.weaken (fun _ _ _ _ => trivial), kN_warm hW hN, kX_warm hX hW (by rw [hU]; exact Nat.le_trans hX.2.1 hS.1) (fun q hq => by rw [hU]; exact hS.2.1 q (Nat.lt_of_lt_of_le hq hX.2.1) (fun z => Nat.not_le.mpr hq (hAs q z)))⟩, hDc.1, fun k q hk => hAs _ (hDc.2 k q hk)⟩⟩
end KHR
