/-! Constructors: the addresses that come are existential -/
abbrev kQc {S : Type} (D : va_G) (cl : List vw_C) (tys : List (ClassId × FieldType)) (sz : Nat) (ws : va_W) (w1 : S → va_W) : Array Value → State → Outcome → State → Prop := va_Qv (fun (_ : S) => True) (fun u t => kOut D cl tys (va_A ws sz) (w1 u) t) (va_A ws sz)
abbrev KC {S : Type} (l : Launch) (y : MethodName) (w : List Cond) (rm : Room) (D : va_G) (cl : List vw_C) (tys : List (ClassId × FieldType)) (sz : Nat) (av : List Value) (ws : va_W) (w1 : S → va_W) (mc ms : Nat) : Prop := Met l y w rm (va_Pc av (kIn D cl tys ws sz)) (kQc D cl tys sz ws w1) mc ms (va_A ws sz)
theorem k_start_c {S : Type} {l : Launch} {y : MethodName} {rm : Room} {D : va_G} {cl : List vw_C} {tys : List (ClassId × FieldType)} {sz : Nat} {av : List Value} {ws : va_W} {w1 : S → va_W} {cc : ByteArray} {maxL mc ms : Nat} (hy : plainName y.cls = true) (hyi : y.name = "<init>") (hlen : (lg_sl av).length ≤ maxL)
    (body : ∀ (p : Program) (e : Env) (s : State) (m : MethodId) (args : Array Value) (below : List Frame) (meth : Method) (c : Code) (A : Nat → Prop) (QQ : State → Prop) (ls : Array Slot), CallFix p m c cc maxL s args U_ y.cls → va_K D cl tys s → va_P D cl ws s.heap → va_D A ws → (∀ q, s.heap.size ≤ q → A q) → lv_has ls maxL (lv_args 0 av) → kN s → meth.name = "<init>" →
      (∀ (u : S) (H : Heap) (locs : List Loc) (pc : Nat) (ls : Array Slot), decode cc pc = .ok (.return_, 1) → va_P D cl (w1 u) H → va_D A (w1 u) → va_S A s.heap H locs → W p l e rm s m args below meth c H locs mc ms QQ (F0 m pc ls [])) →
      W p l e rm s m args below meth c s.heap [] 0 0 QQ (F0 m 0 ls [])) : KC l y (Cond.code y cc maxL none :: U_) rm D cl tys sz av ws w1 mc ms := by
  refine Met.ofW (cc := cc) (maxL := maxL) (ret := none) hy rfl ?_
  intro p e s m args below meth c s₁ B hml hv
  obtain ⟨ha, hsz, hP, hK, hD0, hN⟩ := hv
  subst ha
  subst hsz
  have hl := lv_entry av (n := maxL) hlen
  rw [lg_entry_eq]
  have hin : meth.name = "<init>" := (name_of_methodNamed B.named B.method).1.trans hyi
  refine body p e s m _ below meth c (va_A ws s.heap.size) _ _ ⟨B.exec, B.bytes, hml, findClass_of_methodNamed B.named, fun w h => atoms_spec (ws := Cond.code y cc maxL none :: U_) B.pre w (List.mem_cons_of_mem _ h)⟩ hK hP hD0.self (fun q h => Or.inr h) hl hN hin ?_
  intro u H locs pc ls hd hP9 hD9 hS
  exact W.vret B.exec B.bytes B.returns (fun t ht hW => ⟨⟨u, rfl, trivial, by rw [ht]; exact hP9, va_K.moved hW.alike hK, hD9⟩, hS.F ht⟩) hS.2.2 hd B.notSynchronized
section KD
variable {p : Program} {l : Launch} {e : Env} {R : Room} {s : State} {m : MethodId} {args : Array Value} {below : List Frame} {meth : Method} {c : Code} {H : Heap} {locs : List Loc} {cells slots : Nat} {Q : State → Prop}
variable {cc : ByteArray} {pc : Nat} {ls : Array Slot} {rest st0 : List Value} {D : va_G} {cl : List vw_C} {A : Nat → Prop} {tys tysC : List (ClassId × FieldType)} {ws wc wr : va_W} {H0 : Heap} {av : Array Value}
theorem kj_c {S : Type} {w1 : S → va_W} {mc ms : Nat} (hr : va_Run p l e R s m args below meth c H locs cells slots mc ms (F0 m pc ls st0) rest (kQc D cl tysC H.size wc w1 av) (va_A wc H.size))
    (hP : va_P D cl ws H) (hD : va_D A ws) (hS : va_S A H0 H locs) (hA : ∀ q, H0.size ≤ q → A q) (isC isR : List Nat) (hC : isC.map (fun i => ws[i]?) = wc.map some) (hR : isR.map (fun i => ws[i]?) = wr.map some) (hnR : va_nd isR = true) (hdis : ∀ i ∈ isR, i ∉ isC)
    (kk : ∀ (u : S) (H1 : Heap) (locs1 : List Loc), va_P D cl (wr ++ w1 u) H1 → va_D A (wr ++ w1 u) → va_S A H0 H1 locs1 → W p l e R s m args below meth c H1 locs1 (cells + mc) (slots + ms) Q (F0 m (pc + 3) ls rest)) : W p l e R s m args below meth c H locs cells slots Q (F0 m pc ls st0) := by
  have hFc := va_free (wc := wc) hD hS hA isC hC
  refine va_callv hr hS (fun q _ h => hFc q h) hFc (fun u t H1 locs1 ht hvm hw hB hz1 hk1 hS1 => ?_)
  obtain ⟨hP1, hK1, hD1⟩ := hB
  rw [ht] at hP1
  obtain ⟨hP2, hD2⟩ := va_join hP hD isC isR hC hR hnR hdis hk1 hFc hP1 hD1
  exact kk u H1 locs1 hP2 hD2 hS1
/-- a new array of ints, whose class is the one that is known -/
theorem n_newa (hexec : p.tables.exec = Jvm.exec) (hb : c.code = cc) (harr : (Cond.arrayClass .int).before args s = true) (hK : va_K D cl tys s) (t0 : Nat) {cI : ClassId} (ht0 : tys[t0]? = some (cI, .int)) (hP : va_P D cl ws H) (hD : va_D A ws) (hS : va_S A H0 H locs) (hA : ∀ q, H0.size ≤ q → A q)
    {n : Nat} (hn : n < 2 ^ 31) (hbytes : n * componentBytes .int ≤ 536870912) (hcells : cells + 1 ≤ R.cells) (hslots : slots + n ≤ R.slots) (hdg : decode cc pc = .ok (.newarray .int, 2))
    (kk : ∀ (q : Nat) (H1 : Heap), va_P D cl (ws ++ [(q, .inl (cI, n, .inl (nA (fun _ => 0))))]) H1 → va_D A (ws ++ [(q, .inl (cI, n, .inl (nA (fun _ => 0))))]) → va_S A H0 H1 locs → W p l e R s m args below meth c H1 locs (cells + 1) (slots + n) Q (F0 m (pc + 2) ls (.ref q :: rest))) : W p l e R s m args below meth c H locs cells slots Q (F0 m pc ls (.int (nI n) :: rest)) := by
  refine va_newa (atype := .int) (ty := .int) (a0 := (n, .inl (nA (fun _ => 0)))) hexec hb harr rfl hK hP hD hS hA (fun cA => ?_) (nI_pos hn) (nI_clamp hn) hbytes hcells hslots hdg (fun q cA H1 hK1 hP1 hD1 hS1 => ?_)
  · rw [vp_cell_i]
    rfl
  · have h1 : s.vm.findClass ("[" ++ (FieldType.int).toString) = some cA := (hK1.2 tys.length (cA, .int) (by simp)).2
    have h2 : s.vm.findClass ("[" ++ (FieldType.int).toString) = some cI := (hK.2 t0 _ ht0).2
    cases Option.some.inj (h1.symm.trans h2)
    exact kk q H1 hP1 hD1 hS1
variable {y : MethodName} {bytes : ByteArray} {maxL index mc ms : Nat} {rm : Room} {own host : String}
theorem k_cwI (n : Nat) (ht : ∀ w ∈ U_, w.before args s = true) (h1 : Cond.methodLink own index y ∈ U_) (h2 : Cond.instanceMethod y ∈ U_) (h4 : Cond.initialized y.cls ∈ U_) (h5 : Cond.code y bytes maxL none ∈ U_) (hrc : rm.cells = mc) (hrs : rm.slots = ms) (hyi : y.name = "<init>")
    (hd : y.cls ≠ "java/lang/invoke/MethodHandle" ∧ y.cls ≠ "java/lang/invoke/VarHandle" ∧ (parseMethodDescriptor y.desc).map (fun d => d.parameters.length) = some n) (hR : rm.frames + 1 ≤ R.frames ∧ 8 + (maxL + 11) + rm.locals ≤ R.locals) :
    CallB R s args own index y bytes maxL none (Cond.code y bytes maxL none :: U_) rm mc ms n ∧ y.name = "<init>" ∧ (Cond.instanceMethod y).before args s = true := ⟨callB_of n ht (U_sub h5) rfl hrc hrs (ht _ h4) (ht _ h1) hd hR, hyi, ht _ h2⟩
theorem k_cwIN (n : Nat) (ht : ∀ w ∈ U_, w.before args s = true) (hN : kN s) (h1 : Cond.methodLinkNest own index y host ∈ NW_) (h2 : Cond.instanceMethod y ∈ U_) (h4 : Cond.initialized y.cls ∈ U_) (h5 : Cond.code y bytes maxL none ∈ U_) (hrc : rm.cells = mc) (hrs : rm.slots = ms) (hyi : y.name = "<init>")
    (hd : y.cls ≠ "java/lang/invoke/MethodHandle" ∧ y.cls ≠ "java/lang/invoke/VarHandle" ∧ (parseMethodDescriptor y.desc).map (fun d => d.parameters.length) = some n) (hR : rm.frames + 1 ≤ R.frames ∧ 8 + (maxL + 11) + rm.locals ≤ R.locals) :
    va_CN R s args own index y host bytes maxL none (Cond.code y bytes maxL none :: U_) rm mc ms n ∧ y.name = "<init>" ∧ (Cond.instanceMethod y).before args s = true := ⟨va_cnB n ht (U_sub h5) rfl hrc hrs (hN _ h1) (ht _ h4) hd hR, hyi, ht _ h2⟩
end KD
