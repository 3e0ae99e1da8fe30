/-! A throwing method's contract; its call and its catch -/
/-- what the law's start says of a place that throws -/
def xSite (A0 : Array Value) (s0 : State) (own X : String) (names : List String) (ix il ic : Nat) : Prop := Bundle.fit X = true ∧ (∀ n ∈ names, Bundle.fit n = true) ∧ (Cond.classLink own ix X).before A0 s0 = true ∧ (Cond.initialized X).before A0 s0 = true ∧ (∃ (jx : Nat) (rx : ByteArray), (decode rx 0 = .ok (.aload_n 0, 1) ∧ decode rx 1 = .ok (.aload_n 1, 1) ∧ decode rx 2 = .ok (.invokespecial jx, 3) ∧ decode rx 5 = .ok (.return_, 1)) ∧ ∀ a ∈ xOwn own ic X jx rx names, xWord a = true ∧ a.before A0 s0 = true) ∧ ∃ (tx : String) (sa : Nat), vk_R own il tx sa s0
abbrev KX (l : Launch) (y : MethodName) (w : List Cond) (rm : Room) (D : va_G) (cl : List vw_C) (tys : List (ClassId × FieldType)) (sz : Nat) (av : List Value) (ws ws' : va_W) (X : String) (s0 : State) : Prop := MetX l y w rm (va_Pc av (kInX D cl tys ws sz s0)) (kQx D cl tys (va_A ws sz) ws' X) 1 6 (va_A ws sz)
section KXS
variable {l : Launch} {y : MethodName} {rm : Room} {D : va_G} {cl : List vw_C} {tys : List (ClassId × FieldType)} {sz : Nat} {av : List Value} {ws ws' : va_W} {cc : ByteArray} {maxL : Nat}
theorem k_start_x {ret : Option FieldType} {X : String} {names : List String} {ix il ic : Nat} {s0 : State} {A0 : Array Value} (hl : l.stackTraces = false) (hSite : xSite A0 s0 y.cls X names ix il ic) (hy : plainName y.cls = true) (hlen : (lg_sl av).length ≤ maxL) (hrf : names.length + 3 < rm.frames) (hrl : 13 * (names.length + 1) + 51 ≤ rm.locals) (hrc : rm.cells = 1) (hrs : rm.slots = 6)
    (body : ∀ (p : Program) (e : Env) (s : State) (m : MethodId) (args : Array Value) (below : List Frame) (meth : Method) (c : Code) (A : Nat → Prop) (QQ : State → Prop) (ls : Array Slot), CallFix p m c cc maxL s args U_ y.cls → va_K D cl tys s → va_P D cl ws s.heap → va_D A ws → (∀ q, s.heap.size ≤ q → A q) → lv_has ls maxL (lv_args 0 av) → kN s →
      (∀ (H : Heap) (locs : List Loc) (pc : Nat) (ls : Array Slot), ls.size = maxL → decode cc pc = .ok (.new ix, 3) → decode cc (pc + 3) = .ok (.dup, 1) → decode cc (pc + 3 + 1) = .ok (.ldc il, 2) → decode cc (pc + 3 + 1 + 2) = .ok (.invokespecial ic, 3) → decode cc (pc + 3 + 1 + 2 + 3) = .ok (.athrow, 1) → va_P D cl ws' H → va_D A ws' → va_S A s.heap H locs → W p l e rm s m args below meth c H locs 0 0 QQ (F0 m pc ls [])) →
      W p l e rm s m args below meth c s.heap [] 0 0 QQ (F0 m 0 ls [])) : KX l y (Cond.code y cc maxL ret :: U_) rm D cl tys sz av ws ws' X s0 := by
  refine MetX.ofW (cc := cc) (maxL := maxL) (ret := ret) hy rfl ?_
  intro p e s m args below meth c s₁ B hml hv
  obtain ⟨ha, hsz, hP, hK, hD0, hN, hX⟩ := hv
  subst ha
  subst hsz
  have hlv := lv_entry av (n := maxL) hlen
  rw [lg_entry_eq]
  have hts := atoms_spec (ws := Cond.code y cc maxL ret :: U_) B.pre
  have hown : s.vm.findClass y.cls = some m.cls := findClass_of_methodNamed B.named
  refine body p e s m _ below meth c (va_A ws s.heap.size) _ _ ⟨B.exec, B.bytes, hml, hown, fun w h => hts w (List.mem_cons_of_mem _ h)⟩ hK hP hD0.self (fun q h => Or.inr h) hlv hN ?_
  intro H locs pc ls hls hd0 hd3 hd4 hd6 hd9 hP9 hD9 hS
  obtain ⟨f1, f2, f3, f4, ⟨jx, rx, ⟨x0, x1, x2, x5⟩, f5⟩, tx, sa, f6⟩ := hSite
  have hempty : c.exceptionTable.isEmpty = true := by
    obtain ⟨meth', c', h1, h2, -, -, -, -, h7, -⟩ := Cond.code_spec B.named (hts _ List.mem_cons_self)
    have e1 := h1.symm.trans B.method
    cases e1
    have hc : meth.code = some c := (Stand.of_body B).code
    cases h2.symm.trans hc
    exact h7
  refine x_thrown (own := y.cls) (names := names) (tx := tx) (sa := sa) B.exec B.bytes hl x0 x1 x2 x5 hown (hls.trans hml.symm) (kX_word rfl hX f3) (kX_word rfl hX f4) (fun a h => kX_word (f5 a h).1 hX (f5 a h).2) f1 f2 (vk_R.warm hX.1 f6) hd0 hd3 hd4 hd6 hd9 ?_ B.notSynchronized hK hP9 hD9 hS (fun q h => Or.inr h) ?_ ⟨hrf, hrl⟩ ⟨by show 0 + 1 ≤ rm.cells; omega, by show 0 + 6 ≤ rm.slots; omega⟩
  · intro x hx
    have hz : c.exceptionTable = #[] := Array.isEmpty_iff.mp hempty
    rw [hz] at hx
    cases hx
  · intro q hq cell hc
    rcases hq with ⟨k, ee, hk⟩ | hq
    · exact x_noSt hP hk hc
    · exact absurd (Array.getElem?_eq_some_iff.mp hc).1 (Nat.not_lt.mpr hq)
end KXS
section XC
variable {p : Program} {l : Launch} {e : Env} {R : Room} {s : State} {m : MethodId} {args : Array Value} {below : List Frame} {meth : Method} {c : Code} {H : Heap} {locs : List Loc} {cells slots : Nat} {Q : State → Prop}
variable {pc : Nat} {ls : Array Slot} {rest st0 : List Value} {D : va_G} {cl : List vw_C} {A : Nat → Prop} {tys tysC : List (ClassId × FieldType)} {ws wc wr w1 : va_W} {H0 : Heap} {av : Array Value} {mc ms : Nat}
theorem x_catch {X own : String} (hr : xRun p l e R s m args below meth c H locs cells slots mc ms (F0 m pc ls st0) rest (kQx D cl tysC (va_A wc H.size) w1 X av) (va_A wc H.size)) (hown : s.vm.findClass own = some m.cls)
    {ys : List ExceptionTableEntry} {x1 : ExceptionTableEntry} {tl : List ExceptionTableEntry} (hTab : c.exceptionTable.toList = ys ++ x1 :: tl) (hys : ys.length ≤ 1)
    (hcov : covers x1 pc = true) (h0 : x1.catchType ≠ 0) (hlink : (Cond.classLink own x1.catchType X).before args s = true) (hself : (Cond.castable X X).before args s = true)
    (hother : ∀ y ∈ ys, covers y pc = true ∧ y.catchType ≠ 0 ∧ ∃ Y : String, (Cond.classLink own y.catchType Y).before args s = true ∧ ∀ c1 c2, s.vm.findClass X = some c1 → s.vm.findClass Y = some c2 → s.vm.assignable c1 c2 = false)
    (hP : va_P D cl ws H) (hD : va_D A ws) (hS : va_S A H0 H locs) (hA : ∀ q, H0.size ≤ q → A q) (isC isR : List Nat) (hC : isC.map (fun i => ws[i]?) = wc.map some) (hR : isR.map (fun i => ws[i]?) = wr.map some) (hnR : va_nd isR = true) (hdis : ∀ i ∈ isR, i ∉ isC)
    (kk : ∀ (a : Nat) (H1 : Heap) (locs1 : List Loc), va_P D cl (wr ++ w1) H1 → va_D A (wr ++ w1) → va_S A H0 H1 locs1 → W p l e R s m args below meth c H1 locs1 (cells + mc) (slots + ms) Q (F0 m x1.handlerPc ls [.ref a])) : W p l e R s m args below meth c H locs cells slots Q (F0 m pc ls st0) := by
  have hFc := va_free (wc := wc) hD hS hA isC hC
  intro T hT U
  obtain ⟨x, st₀, t, T', L, g0, hal, U', hL, e1, e2, ⟨⟨a', hoc, ⟨ce, hce, hvm, hcls⟩, hPt, hKt, hDt⟩, hz, hk⟩, hsteps⟩ := hr T hT U
  cases hoc
  rw [g0] at hz hk
  have hpl : e.platform.magicAccessors = ({} : Platform).magicAccessors := by rw [U'.admits.platform]
  have hce' : T'.heap[x]? = some ce := by rw [e1]; exact hce
  have hcX : s.vm.findClass X = some ce.cls := by rw [← U'.warmed.alike.findClass, e2]; exact hcls
  obtain ⟨cT, hcT, hcl⟩ := Cond.classLink_spec hown hlink e.platform hpl
  cases hcX.symm.trans hcT
  obtain ⟨c3, c4, hc3, hc4, hasg⟩ := Cond.castable_spec hself
  cases hcX.symm.trans hc3
  cases hcX.symm.trans hc4
  obtain ⟨dk, _, _, kt, hd, _, _, _, _, hkt, _, hopen⟩ := hcl.here
  have hobj : ∀ k, ce.vm ≠ .statics k := fun k q => by rw [hvm] at q; cases q
  -- the search
  have key : ∃ vm' : Vm, s.WarmedH vm' ∧ xFinds e ((T'.setTop ({ F0 m pc ls st0 with stack := rest } : JFrame)).pushFrame (.throwing x)) ({ F0 m pc ls st0 with stack := rest } : JFrame) x (.found x1.handlerPc) vm' := by
    generalize hSe : (T'.setTop ({ F0 m pc ls st0 with stack := rest } : JFrame)).pushFrame (.throwing x) = S
    have hSv : S.vm = T'.vm := by rw [← hSe]; rfl
    have hSh : S.heap = T'.heap := by rw [← hSe]; rfl
    have hmS : S.vm.method? m = some meth := by rw [hSv]; exact U'.method'
    -- one entry that matches, at warmer tables
    have one : ∀ (S1 : State), s.WarmedH S1.vm → S1.heap = T'.heap → ∃ vm' : Vm, s.WarmedH vm' ∧ ∀ (Q : Handler → Pre) (E : CtlPost) (d : Bool) (acts : List Action), wp (findHandler.go ({ F0 m pc ls st0 with stack := rest } : JFrame) x (x1 :: tl)) Q E e d acts S1 ↔ Q (.found x1.handlerPc) d acts (S1.setVm vm') := by
      intro S1 hW1 hh1
      have hcl₀ := hW1.classLinks hcl
      have hW' : s.WarmedH (S1.vm.noted m.cls x1.catchType (.cls ce.cls)) := hW1.noted hd hopen (State.rightAt_cls hcl)
      obtain ⟨kt', hkt', -⟩ := hW'.alike.2.2 _ _ hkt
      refine ⟨_, hW', fun Q E d acts => ?_⟩
      rw [x_go (f := ({ F0 m pc ls st0 with stack := rest } : JFrame)) hcov h0 (resolveClass_links e.toSetting hcl₀) (by rw [hW'.2.1, hW1.2.1]; exact Nat.le_refl _) (by rw [hh1]; exact hce') hobj ⟨kt', hkt'⟩ ⟨kt', hkt'⟩]
      rw [if_pos (by rw [hW'.alike.assignable]; exact hasg)]
    match ys, hys, hTab, hother with
    | [], _, hTab, _ =>
      obtain ⟨vm', hW', hf⟩ := one S (by rw [hSv]; exact U'.warmed) hSh
      exact ⟨vm', hW', fun Q E d acts => (W.findHandler_eq hmS U'.code).trans (by rw [hTab]; exact hf Q E d acts)⟩
    | [y], _, hTab, hother =>
      obtain ⟨hcy, h0y, Y, hlY, hno⟩ := hother y List.mem_cons_self
      obtain ⟨cY, hcY, hclY⟩ := Cond.classLink_spec hown hlY e.platform hpl
      obtain ⟨dk2, _, _, kY, hd2, _, _, _, _, hkY, _, hopen2⟩ := hclY.here
      have hWS : s.WarmedH S.vm := by rw [hSv]; exact U'.warmed
      have hcl2 := hWS.classLinks hclY
      have hW2 : s.WarmedH (S.vm.noted m.cls y.catchType (.cls cY)) := hWS.noted hd2 hopen2 (State.rightAt_cls hclY)
      obtain ⟨kY', hkY', -⟩ := hW2.alike.2.2 _ _ hkY
      obtain ⟨kt2, hkt2, -⟩ := hW2.alike.2.2 _ _ hkt
      obtain ⟨vm', hW', hf⟩ := one (S.setVm (S.vm.noted m.cls y.catchType (.cls cY))) hW2 hSh
      refine ⟨vm', hW', fun Q E d acts => (W.findHandler_eq hmS U'.code).trans ?_⟩
      rw [hTab]
      show wp (findHandler.go _ x (y :: (x1 :: tl))) Q E e d acts S ↔ _
      rw [x_go (f := ({ F0 m pc ls st0 with stack := rest } : JFrame)) hcy h0y (resolveClass_links e.toSetting hcl2) (by rw [hW2.2.1, hWS.2.1]; exact Nat.le_refl _) (by rw [hSh]; exact hce') hobj ⟨kt2, hkt2⟩ ⟨kY', hkY'⟩]
      rw [if_neg (by rw [hW2.alike.assignable, hno _ _ hcX hcY]; decide), hf]
      rfl
    | _ :: _ :: _, hys, _, _ => exact absurd hys (by simp)
  obtain ⟨vm', hW', hfind⟩ := key
  obtain ⟨hP2, hD2⟩ := va_join (H1 := T'.heap) hP hD isC isR hC hR hnR hdis (fun q h1 h2 => by rw [e1]; exact hk q h1 h2) hFc (by rw [e1]; exact hPt) hDt
  obtain ⟨t2, a1, b1⟩ := kk x T'.heap (locs ++ L) hP2 hD2 ⟨Nat.le_trans hS.1 (by rw [e1]; exact hz), fun q h1 h2 => by rw [e1, hk q (Nat.lt_of_lt_of_le h1 hS.1) (fun z => h2 (hFc q z))]; exact hS.2.1 q h1 h2, fun q hq => by
    rcases List.mem_append.mp hq with h | h
    · exact hS.2.2 q h
    · exact hFc _ (hL q h)⟩ (T'.setVm vm') rfl (U'.noted hW')
  exact ⟨t2, hsteps.trans (x_caught U' x rfl hfind a1), b1⟩
theorem kp_X {As : List Value} {b : Nat} {s0 : State} (hN : kN s) (hX : kX s0 s) (hK : va_K D cl tys s) (isK : List Nat) (hKs : isK.filterMap (fun i => tys[i]?) = tysC) (hP : va_P D cl ws H) (hD : va_D A ws) (hS : va_S A s.heap H locs) (hAs : ∀ q, A q → s0.heap.size ≤ q) (isC : List Nat) (hC : isC.map (fun i => ws[i]?) = wc.map some) (hnC : va_nd isC = true) {ci : Nat} {q : vw_C} (hcl : cl[ci]? = some q) (q0 : Nat) {fs : List Value} (he : wc[q0]? = some (b, .inr (ci, fs))) :
    PreV s H q.1 b (va_Pc (.ref b :: As) (kInX D cl tysC wc H.size s0)) As := by
  have hPc : va_P D cl wc H := hP.sub isC (map_fm hC)
  have hDc := hD.sub isC hnC hC
  have hKc : va_K D cl tysC s := hK.sub isK hKs
  exact ⟨kInX_blind, va_recv hKc hPc hcl he, fun U hU hW => ⟨rfl, by rw [hU], by rw [hU]; exact hPc, va_K.moved hW.alike hKc, hDc.weaken (fun _ _ _ _ => trivial), kN_warm hW hN, kX_warm hX hW (by rw [hU]; exact Nat.le_trans hX.2.1 hS.1) (fun q hq => by rw [hU]; exact hS.2.1 q (Nat.lt_of_lt_of_le hq hX.2.1) (fun z => Nat.not_le.mpr hq (hAs q z)))⟩⟩
end XC
