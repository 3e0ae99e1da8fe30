/-! What the law's start says -/
theorem NW_in : ∀ w ∈ NW_, w ∈ lw_tbl := List.forall_mem_cons.mpr ⟨t_61, List.forall_mem_cons.mpr ⟨t_72, List.forall_mem_cons.mpr ⟨t_134, List.forall_mem_cons.mpr ⟨t_144, List.forall_mem_cons.mpr ⟨t_169, List.forall_mem_cons.mpr ⟨t_212, List.forall_mem_cons.mpr ⟨t_243, fun _ h => absurd h List.not_mem_nil⟩⟩⟩⟩⟩⟩⟩
theorem law_N {args : Array Value} {s : State} (h : ∀ w ∈ lw_tbl, w.before args s = true) : kN s := fun w hw => va_Nw.of (NW_tab w hw) (h w (NW_in w hw))
theorem law_K {args : Array Value} {s : State} (hts : ∀ w ∈ U_, w.before args s = true) : ∃ (dC : Nat → ClassId) (dI : Nat → Nat → Nat) (cI cL : ClassId), va_K (dC, dI) CL_ [(cI, .int), (cL, .long)] s := by
  obtain ⟨c0, i0, k0⟩ := u_known hts in_Row (hts _ u_77)
  obtain ⟨c1, i1, k1⟩ := u_known hts in_Entry (hts _ u_117)
  obtain ⟨c2, i2, k2⟩ := u_known hts in_Block (hts _ u_133)
  obtain ⟨c3, i3, k3⟩ := u_known hts in_Disk (hts _ u_60)
  obtain ⟨c4, i4, k4⟩ := u_known hts in_Writer (hts _ u_143)
  obtain ⟨c5, i5, k5⟩ := u_known hts in_Log (hts _ u_71)
  obtain ⟨c6, i6, k6⟩ := u_known hts in_Top (hts _ u_52)
  obtain ⟨c7, i7, k7⟩ := u_known hts in_Mod (hts _ u_629)
  obtain ⟨cI, kI, pI, aI1, aI2, aI3⟩ := Cond.arrayClass_spec (hts _ u_69)
  obtain ⟨cL, kL, pL, aL1, aL2, aL3⟩ := Cond.arrayClass_spec (hts _ u_825)
  refine ⟨fun n => match n with | 0 => c0 | 1 => c1 | 2 => c2 | 3 => c3 | 4 => c4 | 5 => c5 | 6 => c6 | _ => c7, fun n => match n with | 0 => i0 | 1 => i1 | 2 => i2 | 3 => i3 | 4 => i4 | 5 => i5 | 6 => i6 | _ => i7, cI, cL, ?_, ?_⟩
  · intro c q hq
    have hlt : c < 8 := (List.getElem?_eq_some_iff.mp hq).1
    rcases (show c = 0 ∨ c = 1 ∨ c = 2 ∨ c = 3 ∨ c = 4 ∨ c = 5 ∨ c = 6 ∨ c = 7 by omega) with rfl | rfl | rfl | rfl | rfl | rfl | rfl | rfl
    · cases Option.some.inj hq
      exact k0
    · cases Option.some.inj hq
      exact k1
    · cases Option.some.inj hq
      exact k2
    · cases Option.some.inj hq
      exact k3
    · cases Option.some.inj hq
      exact k4
    · cases Option.some.inj hq
      exact k5
    · cases Option.some.inj hq
      exact k6
    · cases Option.some.inj hq
      exact k7
  · intro k q hk
    have hlt : k < 2 := (List.getElem?_eq_some_iff.mp hk).1
    rcases (show k = 0 ∨ k = 1 by omega) with rfl | rfl
    · cases Option.some.inj hk
      exact ⟨fun n z => ⟨fun k h => (by cases h), kI, aI2, pI, aI3⟩, aI1⟩
    · cases Option.some.inj hk
      exact ⟨fun n z => ⟨fun k h => (by cases h), kL, aL2, pL, aL3⟩, aL1⟩
abbrev XR_ : List Cond := [.isRef (.static "java/lang/Throwable" "UNASSIGNED_STACK" "[Ljava/lang/StackTraceElement;"), .isRef (.static "java/lang/Throwable" "SUPPRESSED_SENTINEL" "Ljava/util/List;")]
abbrev XN_ : List Cond := [.not (.castable "java/lang/UnsupportedOperationException" "java/lang/IllegalArgumentException"), .not (.castable "java/util/NoSuchElementException" "java/lang/IllegalArgumentException")]
abbrev XS_ : List Cond := [.exactly (.string "BlockLog" 76) "java/lang/String", .exactly (.string "BlockLog" 97) "java/lang/String", .exactly (.string "BlockLog" 134) "java/lang/String", .exactly (.string "BlockLog" 189) "java/lang/String", .exactly (.string "BlockLog" 87) "java/lang/String", .exactly (.string "BlockLog" 103) "java/lang/String", .exactly (.string "BlockLog" 122) "java/lang/String", .exactly (.string "BlockLog" 136) "java/lang/String", .exactly (.string "BlockLog" 146) "java/lang/String", .exactly (.string "BlockLog" 158) "java/lang/String"]
theorem inXR_ : ∀ a ∈ XR_, a ∈ flatC (Jvm.Cond.and given_1 narrow_1) := by decide +kernel
theorem inXN_ : ∀ a ∈ XN_, a ∈ flatC (Jvm.Cond.and given_1 narrow_1) := by decide +kernel
theorem inXS_ : ∀ a ∈ XS_, a ∈ flatC (Jvm.Cond.and given_1 narrow_1) := by decide +kernel
theorem own_IAE : ∀ a ∈ xOwn "BlockLog" 78 "java/lang/IllegalArgumentException" 7 Bundle.six NM3, xWord a = true ∧ (a ∈ lw_tbl ∨ a ∈ XR_) := by decide +kernel
theorem own_UOE : ∀ a ∈ xOwn "BlockLog" 89 "java/lang/UnsupportedOperationException" 7 Bundle.six NM3, xWord a = true ∧ (a ∈ lw_tbl ∨ a ∈ XR_) := by decide +kernel
theorem own_IOE : ∀ a ∈ xOwn "BlockLog" 148 "java/lang/IndexOutOfBoundsException" 7 Bundle.six NM3, xWord a = true ∧ (a ∈ lw_tbl ∨ a ∈ XR_) := by decide +kernel
theorem own_NSE : ∀ a ∈ xOwn "BlockLog" 160 "java/util/NoSuchElementException" 13 prog_18_method_4_code NM3, xWord a = true ∧ (a ∈ lw_tbl ∨ a ∈ XR_) := by decide +kernel
theorem law_site {A0 : Array Value} {s : State} {X : String} {ix il ic jx : Nat} {rx : ByteArray} {tx : String} (hT : ∀ w ∈ lw_tbl, w.before A0 s = true) (hG : (Jvm.Cond.and given_1 narrow_1).before A0 s = true) (hfit : Bundle.fit X = true) (hcl : Cond.classLink "BlockLog" ix X ∈ lw_tbl) (hini : Cond.initialized X ∈ lw_tbl) (hdx : decode rx 0 = .ok (.aload_n 0, 1) ∧ decode rx 1 = .ok (.aload_n 1, 1) ∧ decode rx 2 = .ok (.invokespecial jx, 3) ∧ decode rx 5 = .ok (.return_, 1)) (hown : ∀ a ∈ xOwn "BlockLog" ic X jx rx NM3, xWord a = true ∧ (a ∈ lw_tbl ∨ a ∈ XR_)) (hsr : Cond.stringRef "BlockLog" il tx ∈ lw_tbl) (hse : Cond.exactly (.string "BlockLog" il) "java/lang/String" ∈ XS_) : xSite A0 s "BlockLog" X NM3 ix il ic := by
  have hF := flat_of_before _ hG
  refine ⟨hfit, by decide +kernel, hT _ hcl, hT _ hini, ⟨jx, rx, hdx, fun a ha => ⟨(hown a ha).1, (hown a ha).2.elim (hT a) (fun h => hF a (inXR_ a h))⟩⟩, tx, ?_⟩
  obtain ⟨a, c, cA, kA, q1, -⟩ := Cond.exactly_spec (args := A0) (first := s) (o := none) (s := s) (idx := []) (t := .string "BlockLog" il) (cls := "java/lang/String") (hF _ (inXS_ _ hse))
  exact ⟨a, vk_R.of (hT _ hsr) q1⟩
theorem law_not {A0 : Array Value} {s : State} {X Y : String} (h : (Cond.not (.castable X Y)).before A0 s = true) : xNot s X Y := by
  intro c1 c2 h1 h2
  simp only [Cond.before, Cond.holds, Cond.value, h1, h2] at h
  cases ha : s.vm.assignable c1 c2 with
  | false => rfl
  | true => simp [ha] at h
theorem law_X {A0 : Array Value} {s : State} (hT : ∀ w ∈ lw_tbl, w.before A0 s = true) (hG : (Jvm.Cond.and given_1 narrow_1).before A0 s = true) : XF A0 s := by
  have hF := flat_of_before _ hG
  have s76 := law_site hT hG (by decide +kernel) (U_tbl u_297) (U_tbl u_47) (by decide +kernel) own_IAE t_339 (List.mem_of_getElem? (i := 0) rfl)
  have s97 := law_site hT hG (by decide +kernel) (U_tbl u_297) (U_tbl u_47) (by decide +kernel) own_IAE t_392 (List.mem_of_getElem? (i := 1) rfl)
  have s134 := law_site hT hG (by decide +kernel) (U_tbl u_297) (U_tbl u_47) (by decide +kernel) own_IAE t_537 (List.mem_of_getElem? (i := 2) rfl)
  have s189 := law_site hT hG (by decide +kernel) (U_tbl u_297) (U_tbl u_47) (by decide +kernel) own_IAE t_627 (List.mem_of_getElem? (i := 3) rfl)
  have s87 := law_site hT hG (by decide +kernel) (U_tbl u_367) (U_tbl u_48) (by decide +kernel) own_UOE t_376 (List.mem_of_getElem? (i := 4) rfl)
  have s103 := law_site hT hG (by decide +kernel) (U_tbl u_367) (U_tbl u_48) (by decide +kernel) own_UOE t_402 (List.mem_of_getElem? (i := 5) rfl)
  have s122 := law_site hT hG (by decide +kernel) (U_tbl u_367) (U_tbl u_48) (by decide +kernel) own_UOE t_487 (List.mem_of_getElem? (i := 6) rfl)
  have s136 := law_site hT hG (by decide +kernel) (U_tbl u_367) (U_tbl u_48) (by decide +kernel) own_UOE t_538 (List.mem_of_getElem? (i := 7) rfl)
  have s146 := law_site hT hG (by decide +kernel) (U_tbl u_555) (U_tbl u_49) (by decide +kernel) own_IOE t_564 (List.mem_of_getElem? (i := 8) rfl)
  have s158 := law_site hT hG (by decide +kernel) (U_tbl u_587) (U_tbl u_50) (by decide +kernel) own_NSE t_596 (List.mem_of_getElem? (i := 9) rfl)
  refine ⟨(fun il h => by
    simp only [List.mem_cons, List.not_mem_nil, or_false] at h
    rcases h with rfl | rfl | rfl | rfl
    · exact s76
    · exact s97
    · exact s134
    · exact s189), (fun il h => by
    simp only [List.mem_cons, List.not_mem_nil, or_false] at h
    rcases h with rfl | rfl | rfl | rfl
    · exact s87
    · exact s103
    · exact s122
    · exact s136), s146, s158, ⟨hT _ t_299, hT _ t_369, hT _ t_557, hT _ t_589⟩, law_not (hF _ (inXN_ _ (List.mem_of_getElem? (i := 0) rfl))), law_not (hF _ (inXN_ _ (List.mem_of_getElem? (i := 1) rfl)))⟩
theorem d0_lt : ∀ j, j < 32 → (updN (updN (updN (fun _ => 0) 0 1) 2 72) 3 (sumN (updN (updN (fun _ => 0) 0 1) 2 72) 0)) j = (fillN (fun _ => 0) (0 * 32) (headN (fun _ => 0) 1) 32) j := by decide +kernel
theorem d0_eq : (updN (updN (updN (fun _ => 0) 0 1) 2 72) 3 (sumN (updN (updN (fun _ => 0) 0 1) 2 72) 0)) = (fillN (fun _ => 0) (0 * 32) (headN (fun _ => 0) 1) 32) := by
  funext j
  by_cases h : j < 32
  · exact d0_lt j h
  · rw [updN_n (by omega), updN_n (by omega), updN_n (by omega), fillN_out (by omega)]
theorem relL_0 : RelL 0 (fun _ => 0) 0 (fun _ => 0) (fun _ => some 0) (fun _ => 0) (fun _ => 0) := ⟨by decide, fun _ => show 0 < 256 by decide, by decide, fun _ => show 0 < 2 ^ 20 by decide, fun k n h => by cases Option.some.inj h; decide, fun key hk n h => by cases Option.some.inj h; exact ⟨show 0 + 0 ≤ 0 by decide, fun i hi => absurd hi (by omega)⟩, fun _ => show 0 < 256 by decide⟩
theorem relB_i : RelB (updN (fun _ => 0) 0 0) (0 + 1) 0 (fun _ => 0) := ⟨updN_b (fun _ => by decide) (by decide), Nat.le_refl 1, by omega, by decide, by decide, fun j h1 h2 => absurd h2 (by omega), fun q => absurd q (by decide)⟩
theorem k0_b : ∀ j, (fillN (fun _ => 0) (0 * 32) (headN (fun _ => 0) 1) 32) j < 256 := fillN_b (fun _ => by decide) (headN_b (fun _ => by decide))
section NL
variable {p : Program} {l : Launch} {e : Env} {R : Room} {s : State} {m : MethodId} {args : Array Value} {below : List Frame} {meth : Method} {c : Code} {H : Heap} {locs : List Loc} {cells slots : Nat} {Q : State → Prop}
variable {cc : ByteArray} {pc : Nat} {ls : Array Slot} {rest : List Value} {D : va_G} {cl : List vw_C} {A : Nat → Prop} {tys : List (ClassId × FieldType)} {ws : va_W} {H0 : Heap}
theorem n_newL (hexec : p.tables.exec = Jvm.exec) (hb : c.code = cc) (harr : (Cond.arrayClass .long).before args s = true) (hK : va_K D cl tys s) (t0 : Nat) {cL : ClassId} (ht0 : tys[t0]? = some (cL, .long)) (hP : va_P D cl ws H) (hD : va_D A ws) (hS : va_S A H0 H locs) (hA : ∀ q, H0.size ≤ q → A q)
    {n : Nat} (hn : n < 2 ^ 31) (hbytes : n * componentBytes .long ≤ 536870912) (hcells : cells + 1 ≤ R.cells) (hslots : slots + n ≤ R.slots) (hdg : decode cc pc = .ok (.newarray .long, 2))
    (kk : ∀ (q : Nat) (H1 : Heap), va_P D cl (ws ++ [(q, .inl (cL, n, .inr (.inl (fun _ => 0))))]) H1 → va_D A (ws ++ [(q, .inl (cL, n, .inr (.inl (fun _ => 0))))]) → va_S A H0 H1 locs → W p l e R s m args below meth c H1 locs (cells + 1) (slots + n) Q (F0 m (pc + 2) ls (.ref q :: rest))) : W p l e R s m args below meth c H locs cells slots Q (F0 m pc ls (.int (nI n) :: rest)) := by
  refine va_newa (atype := .long) (ty := .long) (a0 := (n, .inr (.inl (fun _ => 0)))) hexec hb harr rfl hK hP hD hS hA (fun cA => ?_) (nI_pos hn) (nI_clamp hn) hbytes hcells hslots hdg (fun q cA H1 hK1 hP1 hD1 hS1 => ?_)
  · rw [vp_cell_l]
    rfl
  · have h1 : s.vm.findClass ("[" ++ (FieldType.long).toString) = some cA := (hK1.2 tys.length (cA, .long) (by simp)).2
    have h2 : s.vm.findClass ("[" ++ (FieldType.long).toString) = some cL := (hK.2 t0 _ ht0).2
    cases Option.some.inj (h1.symm.trans h2)
    exact kk q H1 hP1 hD1 hS1
end NL
